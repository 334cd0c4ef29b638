theorem n_M_theWork_0 : Cond.fieldLink RX8 9 "LacePillowModel" "now" "[I" ∈ wsX8_theWork := by decide +kernel
theorem n_M_theWork_1 : ∀ w ∈ wsX80, w ∈ wsX8_theWork := by decide +kernel
set_option maxHeartbeats 4000000 in
set_option maxRecDepth 100000 in
theorem c_M_theWork (l : Launch) (G : GT) (ad : Nat → Nat) (hI : Inj LM ad) (σ : St) {Q : St → Prop} (hV : V_M_theWork σ Q) : Met l yX8_theWork wsX8_theWork (rmx 3 73) (Pq vwCl G LM ad σ [.ref (ad 0)]) (Qv vwCl G LM ad Q) 0 0 (Ax LM ad) := by
  unfold V_M_theWork at hV
  refine x_metv (own := RX8) (by decide) rfl rfl (Nat.le_of_ble_eq_true rfl) hI ?_
  intro p e s m args below meth c R QQ X hR hret ls hl hw
  replace hl : lv_has ls 2 [(0, .ref (ad 0))] := hl
  obtain ⟨H, hH⟩ : ∃ z, z = s.heap := ⟨_, rfl⟩
  obtain ⟨locs, hlo⟩ : ∃ z : List Loc, z = [] := ⟨_, rfl⟩
  rw [← hH, ← hlo]
  replace hw : Wx vwCl G LM ad s H locs σ := by rw [hH, hlo]; exact hw
  clear hH hlo
  refine x_aload_n X dX8_theWork_0 rfl (lv_at hl 0 rfl) ?_
  refine x_cvv X hw [] [] (c_M_begins l G ad hI σ hV) (cwV 0 X.2.2.2.2 gX8_theWork_X8_begins rfl rfl rfl hd_M_begins ⟨x_fr hR.1 rfl, x_fr hR.2 rfl⟩) lm0 cX8 rfl hl.1 rfl (Nat.le_of_ble_eq_true rfl) dX8_theWork_1 ⟨Nat.zero_le _, Nat.zero_le _⟩ (fun σ1 H locs hV hw => ?_)
  refine x_iconst X dX8_theWork_4 ?_
  refine x_istore_n X [(1, iV 0), (0, .ref (ad 0))] dX8_theWork_5 rfl hl (by decide) rfl (fun ls hl => ?_)
  refine WL1.use (Gl := fun x1_2 σ3 => ∀ (H : Heap) (locs : List Loc) (ls : Array Slot), Wx vwCl G LM ad s H locs σ3 → lv_has ls 2 [(1, iV x1_2), (0, .ref (ad 0))] → W p l e R s m args below meth c H locs 0 0 QQ (F0 m 6 ls [])) ?_ hV H locs ls hw hl
  clear hV hw hl H locs ls
  intro bk4 x1_2 σ3 hbk4 hV H locs ls hw hl
  refine x_iload_n X dX8_theWork_6 rfl (lv_at hl 0 rfl) ?_
  refine x_aload_n X dX8_theWork_7 rfl (lv_at hl 1 rfl) ?_
  refine x_getr X hw lm0 cX8 0 (by decide) rfl n_M_theWork_1 n_M_theWork_0 dX8_theWork_8 ?_
  refine x_iconst X dX8_theWork_11 ?_
  refine x_iald X hw lm1 k32_1 rfl (show (0 : Int) ≤ 1 ∧ (1 : Int) < 204 by decide) dX8_theWork_12 ?_
  refine x_icmp_ge X rfl rfl 37 dX8_theWork_13 (by decide) (fun hc => ?_) (fun hc => ?_)
  · replace hV := hV.1 hc
    exact hret σ3 H locs ls 37 hV hw dX8_theWork_37
  · replace hV := hV.2 hc
    refine x_aload_n X dX8_theWork_16 rfl (lv_at hl 1 rfl) ?_
    refine x_aload_n X dX8_theWork_17 rfl (lv_at hl 1 rfl) ?_
    refine x_getr X hw lm0 cX8 0 (by decide) rfl n_M_theWork_1 n_M_theWork_0 dX8_theWork_18 ?_
    refine x_sipush X dX8_theWork_21 (by decide) ?_
    refine x_iload_n X dX8_theWork_24 rfl (lv_at hl 0 rfl) ?_
    refine x_iadd X dX8_theWork_25 ?_
    obtain ⟨hi, hV⟩ := hV
    refine x_iald X hw lm1 rfl rfl hi dX8_theWork_26 ?_
    refine x_iconst X dX8_theWork_27 ?_
    refine x_cvv X hw [iV (σ3 1 (i32 (156 + x1_2))), iV 1] [] (c_M_works l G ad hI σ3 (σ3 1 (i32 (156 + x1_2))) 1 hV) (cwV 2 X.2.2.2.2 gX8_theWork_X8_works rfl rfl rfl hd_M_works ⟨x_fr hR.1 rfl, x_fr hR.2 rfl⟩) lm0 cX8 rfl hl.1 rfl (Nat.le_of_ble_eq_true rfl) dX8_theWork_28 ⟨Nat.zero_le _, Nat.zero_le _⟩ (fun σ5 H locs hV hw => ?_)
    refine x_iinc X (k := 0) (x1_2 + 1) [(1, iV (x1_2 + 1)), (0, .ref (ad 0))] dX8_theWork_31 hl rfl rfl (by decide) rfl (fun ls hl => ?_)
    refine x_goto X 6 dX8_theWork_34 (by decide) ?_
    exact hbk4 (x1_2 + 1) σ5 hV H locs ls hw hl

set_option maxHeartbeats 4000000 in
set_option maxRecDepth 100000 in
theorem c_M_first (l : Launch) (G : GT) (ad : Nat → Nat) (hI : Inj LM ad) (σ : St) (a1 : Int) {Q : St → Prop} (hV : V_M_first σ a1 Q) : Met l yX8_first wsX8_first (rmx 3 73) (Pq vwCl G LM ad σ [.ref (ad 0), iV a1]) (Qv vwCl G LM ad Q) 0 0 (Ax LM ad) := by
  unfold V_M_first at hV
  refine x_metv (own := RX8) (by decide) rfl rfl (Nat.le_of_ble_eq_true rfl) hI ?_
  intro p e s m args below meth c R QQ X hR hret ls hl hw
  replace hl : lv_has ls 3 [(0, .ref (ad 0)), (1, iV a1)] := hl
  obtain ⟨H, hH⟩ : ∃ z, z = s.heap := ⟨_, rfl⟩
  obtain ⟨locs, hlo⟩ : ∃ z : List Loc, z = [] := ⟨_, rfl⟩
  rw [← hH, ← hlo]
  replace hw : Wx vwCl G LM ad s H locs σ := by rw [hH, hlo]; exact hw
  clear hH hlo
  refine x_aload_n X dX8_first_0 rfl (lv_at hl 0 rfl) ?_
  refine x_cvv X hw [] [] (c_M_begins l G ad hI σ hV) (cwV 0 X.2.2.2.2 gX8_first_X8_begins rfl rfl rfl hd_M_begins ⟨x_fr hR.1 rfl, x_fr hR.2 rfl⟩) lm0 cX8 rfl hl.1 rfl (Nat.le_of_ble_eq_true rfl) dX8_first_1 ⟨Nat.zero_le _, Nat.zero_le _⟩ (fun σ1 H locs hV hw => ?_)
  refine x_iconst X dX8_first_4 ?_
  refine x_istore_n X [(2, iV 0), (0, .ref (ad 0)), (1, iV a1)] dX8_first_5 rfl hl (by decide) rfl (fun ls hl => ?_)
  refine WL1.use (Gl := fun x2_2 σ3 => ∀ (H : Heap) (locs : List Loc) (ls : Array Slot), Wx vwCl G LM ad s H locs σ3 → lv_has ls 3 [(2, iV x2_2), (0, .ref (ad 0)), (1, iV a1)] → W p l e R s m args below meth c H locs 0 0 QQ (F0 m 6 ls [])) ?_ hV H locs ls hw hl
  clear hV hw hl H locs ls
  intro bk4 x2_2 σ3 hbk4 hV H locs ls hw hl
  refine x_iload_n X dX8_first_6 rfl (lv_at hl 0 rfl) ?_
  refine x_iload_n X dX8_first_7 rfl (lv_at hl 2 rfl) ?_
  refine x_icmp_ge X rfl rfl 23 dX8_first_8 (by decide) (fun hc => ?_) (fun hc => ?_)
  · replace hV := hV.1 hc
    exact hret σ3 H locs ls 23 hV hw dX8_first_23
  · replace hV := hV.2 hc
    refine x_aload_n X dX8_first_11 rfl (lv_at hl 1 rfl) ?_
    refine x_iload_n X dX8_first_12 rfl (lv_at hl 0 rfl) ?_
    refine x_iconst X dX8_first_13 ?_
    refine x_cvv X hw [iV x2_2, iV 1] [] (c_M_works l G ad hI σ3 x2_2 1 hV) (cwV 2 X.2.2.2.2 gX8_first_X8_works rfl rfl rfl hd_M_works ⟨x_fr hR.1 rfl, x_fr hR.2 rfl⟩) lm0 cX8 rfl hl.1 rfl (Nat.le_of_ble_eq_true rfl) dX8_first_14 ⟨Nat.zero_le _, Nat.zero_le _⟩ (fun σ5 H locs hV hw => ?_)
    refine x_iinc X (k := 0) (x2_2 + 1) [(2, iV (x2_2 + 1)), (0, .ref (ad 0)), (1, iV a1)] dX8_first_17 hl rfl rfl (by decide) rfl (fun ls hl => ?_)
    refine x_goto X 6 dX8_first_20 (by decide) ?_
    exact hbk4 (x2_2 + 1) σ5 hV H locs ls hw hl

theorem n_M_whole_0 : Cond.fieldLink RX8 120 "LacePillowModel" "many" "I" ∈ wsX8_whole := by decide +kernel
theorem n_M_whole_1 : ∀ w ∈ wsX80, w ∈ wsX8_whole := by decide +kernel
set_option maxHeartbeats 4000000 in
set_option maxRecDepth 100000 in
theorem c_M_whole (l : Launch) (G : GT) (ad : Nat → Nat) (hI : Inj LM ad) (σ : St) (a1 : Int) {Q : St → Prop} (hV : V_M_whole σ a1 Q) : Met l yX8_whole wsX8_whole (rmx 4 95) (Pq vwCl G LM ad σ [.ref (ad 0), iV a1]) (Qv vwCl G LM ad Q) 0 0 (Ax LM ad) := by
  unfold V_M_whole at hV
  refine x_metv (own := RX8) (by decide) rfl rfl (Nat.le_of_ble_eq_true rfl) hI ?_
  intro p e s m args below meth c R QQ X hR hret ls hl hw
  replace hl : lv_has ls 2 [(0, .ref (ad 0)), (1, iV a1)] := hl
  obtain ⟨H, hH⟩ : ∃ z, z = s.heap := ⟨_, rfl⟩
  obtain ⟨locs, hlo⟩ : ∃ z : List Loc, z = [] := ⟨_, rfl⟩
  rw [← hH, ← hlo]
  replace hw : Wx vwCl G LM ad s H locs σ := by rw [hH, hlo]; exact hw
  clear hH hlo
  refine x_iload_n X dX8_whole_0 rfl (lv_at hl 1 rfl) ?_
  refine x_if_ne X rfl 11 dX8_whole_1 (by decide) (fun hc => ?_) (fun hc => ?_)
  · replace hV := hV.1 hc
    refine x_aload_n X dX8_whole_11 rfl (lv_at hl 0 rfl) ?_
    refine x_aload_n X dX8_whole_12 rfl (lv_at hl 0 rfl) ?_
    refine x_geti X hw lm0 cX8 5 (by decide) rfl n_M_whole_1 n_M_whole_0 dX8_whole_13 ?_
    refine x_cvv X hw [iV (σ 0 5)] [] (c_M_first l G ad hI σ (σ 0 5) hV) (cwV 1 X.2.2.2.2 gX8_whole_X8_first rfl rfl rfl hd_M_first ⟨x_fr hR.1 rfl, x_fr hR.2 rfl⟩) lm0 cX8 rfl hl.1 rfl (Nat.le_of_ble_eq_true rfl) dX8_whole_16 ⟨Nat.zero_le _, Nat.zero_le _⟩ (fun σ1 H locs hV hw => ?_)
    exact hret σ1 H locs ls 19 hV hw dX8_whole_19
  · replace hV := hV.2 hc
    refine x_aload_n X dX8_whole_4 rfl (lv_at hl 0 rfl) ?_
    refine x_cvv X hw [] [] (c_M_theWork l G ad hI σ hV) (cwV 0 X.2.2.2.2 gX8_whole_X8_theWork rfl rfl rfl hd_M_theWork ⟨x_fr hR.1 rfl, x_fr hR.2 rfl⟩) lm0 cX8 rfl hl.1 rfl (Nat.le_of_ble_eq_true rfl) dX8_whole_5 ⟨Nat.zero_le _, Nat.zero_le _⟩ (fun σ2 H locs hV hw => ?_)
    refine x_goto X 19 dX8_whole_8 (by decide) ?_
    exact hret σ2 H locs ls 19 hV hw dX8_whole_19

theorem n_M_drop_0 : Cond.fieldLink RX8 210 "LacePillowModel" "left" "I" ∈ wsX8_drop := by decide +kernel
theorem n_M_drop_1 : ∀ w ∈ wsX80, w ∈ wsX8_drop := by decide +kernel
theorem n_M_drop_2 : Cond.fieldLink RX8 62 "LacePillowModel" "leftPlace" "[I" ∈ wsX8_drop := by decide +kernel
theorem n_M_drop_3 : Cond.fieldLink RX8 65 "LacePillowModel" "leftSign" "[I" ∈ wsX8_drop := by decide +kernel
set_option maxHeartbeats 4000000 in
set_option maxRecDepth 100000 in
theorem c_M_drop (l : Launch) (G : GT) (ad : Nat → Nat) (hI : Inj LM ad) (σ : St) (a1 : Int) {Q : St → Prop} (hV : V_M_drop σ a1 Q) : Met l yX8_drop wsX8_drop (rmx 0 0) (Pq vwCl G LM ad σ [.ref (ad 0), iV a1]) (Qv vwCl G LM ad Q) 0 0 (Ax LM ad) := by
  unfold V_M_drop at hV
  refine x_metv (own := RX8) (by decide) rfl rfl (Nat.le_of_ble_eq_true rfl) hI ?_
  intro p e s m args below meth c R QQ X hR hret ls hl hw
  replace hl : lv_has ls 3 [(0, .ref (ad 0)), (1, iV a1)] := hl
  obtain ⟨H, hH⟩ : ∃ z, z = s.heap := ⟨_, rfl⟩
  obtain ⟨locs, hlo⟩ : ∃ z : List Loc, z = [] := ⟨_, rfl⟩
  rw [← hH, ← hlo]
  replace hw : Wx vwCl G LM ad s H locs σ := by rw [hH, hlo]; exact hw
  clear hH hlo
  refine x_aload_n X dX8_drop_0 rfl (lv_at hl 0 rfl) ?_
  refine x_dup X dX8_drop_1 rfl ?_
  refine x_geti X hw lm0 cX8 21 (by decide) rfl n_M_drop_1 n_M_drop_0 dX8_drop_2 ?_
  refine x_iconst X dX8_drop_5 ?_
  refine x_isub X dX8_drop_6 ?_
  refine x_puti X hw lm0 cX8 21 (by decide) rfl n_M_drop_1 n_M_drop_0 tyX8 tyX8_ok nmX8 rfl rfl rfl dX8_drop_7 (fun H locs σ1 hs hw => ?_)
  replace hV := hV σ1 hs
  refine x_iload_n X dX8_drop_10 rfl (lv_at hl 1 rfl) ?_
  refine x_istore_n X [(2, iV a1), (0, .ref (ad 0)), (1, iV a1)] dX8_drop_11 rfl hl (by decide) rfl (fun ls hl => ?_)
  refine WL1.use (Gl := fun x2_2 σ3 => ∀ (H : Heap) (locs : List Loc) (ls : Array Slot), Wx vwCl G LM ad s H locs σ3 → lv_has ls 3 [(2, iV x2_2), (0, .ref (ad 0))] → W p l e R s m args below meth c H locs 0 0 QQ (F0 m 12 ls [])) ?_ hV H locs ls hw (lv_sub hl [0, 1] rfl)
  clear hV hw hl H locs ls
  intro bk4 x2_2 σ3 hbk4 hV H locs ls hw hl
  refine x_iload_n X dX8_drop_12 rfl (lv_at hl 0 rfl) ?_
  refine x_aload_n X dX8_drop_13 rfl (lv_at hl 1 rfl) ?_
  refine x_geti X hw lm0 cX8 21 (by decide) rfl n_M_drop_1 n_M_drop_0 dX8_drop_14 ?_
  refine x_icmp_ge X rfl rfl 54 dX8_drop_17 (by decide) (fun hc => ?_) (fun hc => ?_)
  · replace hV := hV.1 hc
    exact hret σ3 H locs ls 54 hV hw dX8_drop_54
  · replace hV := hV.2 hc
    refine x_aload_n X dX8_drop_20 rfl (lv_at hl 1 rfl) ?_
    refine x_getr X hw lm0 cX8 22 (by decide) rfl n_M_drop_1 n_M_drop_2 dX8_drop_21 ?_
    refine x_iload_n X dX8_drop_24 rfl (lv_at hl 0 rfl) ?_
    refine x_aload_n X dX8_drop_25 rfl (lv_at hl 1 rfl) ?_
    refine x_getr X hw lm0 cX8 22 (by decide) rfl n_M_drop_1 n_M_drop_2 dX8_drop_26 ?_
    refine x_iload_n X dX8_drop_29 rfl (lv_at hl 0 rfl) ?_
    refine x_iconst X dX8_drop_30 ?_
    refine x_iadd X dX8_drop_31 ?_
    obtain ⟨hi, hV⟩ := hV
    refine x_iald X hw lm18 rfl rfl hi dX8_drop_32 ?_
    obtain ⟨hi, hV⟩ := hV
    refine x_iast X hw lm18 rfl rfl hi dX8_drop_33 (fun H locs σ5 hs hw => ?_)
    replace hV := hV σ5 hs
    refine x_aload_n X dX8_drop_34 rfl (lv_at hl 1 rfl) ?_
    refine x_getr X hw lm0 cX8 23 (by decide) rfl n_M_drop_1 n_M_drop_3 dX8_drop_35 ?_
    refine x_iload_n X dX8_drop_38 rfl (lv_at hl 0 rfl) ?_
    refine x_aload_n X dX8_drop_39 rfl (lv_at hl 1 rfl) ?_
    refine x_getr X hw lm0 cX8 23 (by decide) rfl n_M_drop_1 n_M_drop_3 dX8_drop_40 ?_
    refine x_iload_n X dX8_drop_43 rfl (lv_at hl 0 rfl) ?_
    refine x_iconst X dX8_drop_44 ?_
    refine x_iadd X dX8_drop_45 ?_
    obtain ⟨hi, hV⟩ := hV
    refine x_iald X hw lm19 rfl rfl hi dX8_drop_46 ?_
    obtain ⟨hi, hV⟩ := hV
    refine x_iast X hw lm19 rfl rfl hi dX8_drop_47 (fun H locs σ6 hs hw => ?_)
    replace hV := hV σ6 hs
    refine x_iinc X (k := 0) (x2_2 + 1) [(2, iV (x2_2 + 1)), (0, .ref (ad 0))] dX8_drop_48 hl rfl rfl (by decide) rfl (fun ls hl => ?_)
    refine x_goto X 12 dX8_drop_51 (by decide) ?_
    exact hbk4 (x2_2 + 1) σ6 hV H locs ls hw hl

theorem n_M_comes_0 : Cond.fieldLink RX8 210 "LacePillowModel" "left" "I" ∈ wsX8_comes := by decide +kernel
theorem n_M_comes_1 : ∀ w ∈ wsX80, w ∈ wsX8_comes := by decide +kernel
theorem n_M_comes_2 : Cond.fieldLink RX8 62 "LacePillowModel" "leftPlace" "[I" ∈ wsX8_comes := by decide +kernel
theorem n_M_comes_3 : Cond.fieldLink RX8 65 "LacePillowModel" "leftSign" "[I" ∈ wsX8_comes := by decide +kernel
set_option maxHeartbeats 4000000 in
set_option maxRecDepth 100000 in
theorem c_M_comes (l : Launch) (G : GT) (ad : Nat → Nat) (hI : Inj LM ad) (σ : St) (a1 : Int) (a2 : Int) {Q : St → Prop} (hV : V_M_comes σ a1 a2 Q) : Met l yX8_comes wsX8_comes (rmx 1 22) (Pq vwCl G LM ad σ [.ref (ad 0), iV a1, iV a2]) (Qv vwCl G LM ad Q) 0 0 (Ax LM ad) := by
  unfold V_M_comes at hV
  refine x_metv (own := RX8) (by decide) rfl rfl (Nat.le_of_ble_eq_true rfl) hI ?_
  intro p e s m args below meth c R QQ X hR hret ls hl hw
  replace hl : lv_has ls 4 [(0, .ref (ad 0)), (1, iV a1), (2, iV a2)] := hl
  obtain ⟨H, hH⟩ : ∃ z, z = s.heap := ⟨_, rfl⟩
  obtain ⟨locs, hlo⟩ : ∃ z : List Loc, z = [] := ⟨_, rfl⟩
  rw [← hH, ← hlo]
  replace hw : Wx vwCl G LM ad s H locs σ := by rw [hH, hlo]; exact hw
  clear hH hlo
  refine x_aload_n X dX8_comes_0 rfl (lv_at hl 0 rfl) ?_
  refine x_geti X hw lm0 cX8 21 (by decide) rfl n_M_comes_1 n_M_comes_0 dX8_comes_1 ?_
  refine x_iconst X dX8_comes_4 ?_
  refine x_isub X dX8_comes_5 ?_
  refine x_bi (fun x3_1 ex3_1 => ?_)
  replace hV := hV x3_1 ex3_1
  clear ex3_1
  refine x_istore_n X [(3, iV x3_1), (0, .ref (ad 0)), (1, iV a1), (2, iV a2)] dX8_comes_6 rfl hl (by decide) rfl (fun ls hl => ?_)
  refine WL1.use (Gl := fun x3_2 σ3 => ∀ (H : Heap) (locs : List Loc) (ls : Array Slot), Wx vwCl G LM ad s H locs σ3 → lv_has ls 4 [(3, iV x3_2), (0, .ref (ad 0)), (1, iV a1), (2, iV a2)] → W p l e R s m args below meth c H locs 0 0 QQ (F0 m 7 ls [])) ?_ hV H locs ls hw hl
  clear hV hw hl H locs ls
  intro bk4 x3_2 σ3 hbk4 hV H locs ls hw hl
  refine x_iload_n X dX8_comes_7 rfl (lv_at hl 0 rfl) ?_
  have hJ41 : ∀ (σ5 : St) (H : Heap) (locs : List Loc) (ls : Array Slot), J_M_comes_41 a1 a2 Q x3_2 σ5 → Wx vwCl G LM ad s H locs σ5 → lv_has ls 4 [(3, iV x3_2), (0, .ref (ad 0)), (1, iV a1), (2, iV a2)] → W p l e R s m args below meth c H locs 0 0 QQ (F0 m 41 ls []) := by
    intro σ5 H locs ls hV hw hl
    unfold J_M_comes_41 at hV
    refine x_iload_n X dX8_comes_41 rfl (lv_at hl 0 rfl) ?_
    have hJ71 : ∀ (σ6 : St) (H : Heap) (locs : List Loc) (ls : Array Slot), J_M_comes_71 a1 a2 Q σ6 → Wx vwCl G LM ad s H locs σ6 → lv_has ls 4 [(0, .ref (ad 0)), (1, iV a1), (2, iV a2)] → W p l e R s m args below meth c H locs 0 0 QQ (F0 m 71 ls []) := by
      intro σ6 H locs ls hV hw hl
      unfold J_M_comes_71 at hV
      refine x_aload_n X dX8_comes_71 rfl (lv_at hl 0 rfl) ?_
      refine x_getr X hw lm0 cX8 22 (by decide) rfl n_M_comes_1 n_M_comes_2 dX8_comes_72 ?_
      refine x_aload_n X dX8_comes_75 rfl (lv_at hl 0 rfl) ?_
      refine x_geti X hw lm0 cX8 21 (by decide) rfl n_M_comes_1 n_M_comes_0 dX8_comes_76 ?_
      refine x_iload_n X dX8_comes_79 rfl (lv_at hl 1 rfl) ?_
      obtain ⟨hi, hV⟩ := hV
      refine x_iast X hw lm18 rfl rfl hi dX8_comes_80 (fun H locs σ7 hs hw => ?_)
      replace hV := hV σ7 hs
      refine x_aload_n X dX8_comes_81 rfl (lv_at hl 0 rfl) ?_
      refine x_getr X hw lm0 cX8 23 (by decide) rfl n_M_comes_1 n_M_comes_3 dX8_comes_82 ?_
      refine x_aload_n X dX8_comes_85 rfl (lv_at hl 0 rfl) ?_
      refine x_geti X hw lm0 cX8 21 (by decide) rfl n_M_comes_1 n_M_comes_0 dX8_comes_86 ?_
      refine x_iload_n X dX8_comes_89 rfl (lv_at hl 2 rfl) ?_
      obtain ⟨hi, hV⟩ := hV
      refine x_iast X hw lm19 rfl rfl hi dX8_comes_90 (fun H locs σ8 hs hw => ?_)
      replace hV := hV σ8 hs
      refine x_aload_n X dX8_comes_91 rfl (lv_at hl 0 rfl) ?_
      refine x_dup X dX8_comes_92 rfl ?_
      refine x_geti X hw lm0 cX8 21 (by decide) rfl n_M_comes_1 n_M_comes_0 dX8_comes_93 ?_
      refine x_iconst X dX8_comes_96 ?_
      refine x_iadd X dX8_comes_97 ?_
      refine x_puti X hw lm0 cX8 21 (by decide) rfl n_M_comes_1 n_M_comes_0 tyX8 tyX8_ok nmX8 rfl rfl rfl dX8_comes_98 (fun H locs σ9 hs hw => ?_)
      replace hV := hV σ9 hs
      exact hret σ9 H locs ls 101 hV hw dX8_comes_101
    refine x_if_lt X rfl 71 dX8_comes_42 (by decide) (fun hc => ?_) (fun hc => ?_)
    · replace hV := hV.1 hc
      exact hJ71 σ5 H locs ls hV hw (lv_sub hl [1, 2, 3] rfl)
    · replace hV := hV.2 hc
      refine x_aload_n X dX8_comes_45 rfl (lv_at hl 1 rfl) ?_
      refine x_getr X hw lm0 cX8 22 (by decide) rfl n_M_comes_1 n_M_comes_2 dX8_comes_46 ?_
      refine x_iload_n X dX8_comes_49 rfl (lv_at hl 0 rfl) ?_
      obtain ⟨hi, hV⟩ := hV
      refine x_iald X hw lm18 rfl rfl hi dX8_comes_50 ?_
      refine x_iload_n X dX8_comes_51 rfl (lv_at hl 2 rfl) ?_
      refine x_icmp_ne X rfl rfl 71 dX8_comes_52 (by decide) (fun hc => ?_) (fun hc => ?_)
      · replace hV := hV.1 hc
        exact hJ71 σ5 H locs ls hV hw (lv_sub hl [1, 2, 3] rfl)
      · replace hV := hV.2 hc
        refine x_aload_n X dX8_comes_55 rfl (lv_at hl 1 rfl) ?_
        refine x_getr X hw lm0 cX8 23 (by decide) rfl n_M_comes_1 n_M_comes_3 dX8_comes_56 ?_
        refine x_iload_n X dX8_comes_59 rfl (lv_at hl 0 rfl) ?_
        obtain ⟨hi, hV⟩ := hV
        refine x_iald X hw lm19 rfl rfl hi dX8_comes_60 ?_
        refine x_iload_n X dX8_comes_61 rfl (lv_at hl 3 rfl) ?_
        refine x_icmp_eq X rfl rfl 71 dX8_comes_62 (by decide) (fun hc => ?_) (fun hc => ?_)
        · replace hV := hV.1 hc
          exact hJ71 σ5 H locs ls hV hw (lv_sub hl [1, 2, 3] rfl)
        · replace hV := hV.2 hc
          refine x_aload_n X dX8_comes_65 rfl (lv_at hl 1 rfl) ?_
          refine x_iload_n X dX8_comes_66 rfl (lv_at hl 0 rfl) ?_
          refine x_cvv X hw [iV x3_2] [] (c_M_drop l G ad hI σ5 x3_2 hV) (cwV 1 X.2.2.2.2 gX8_comes_X8_drop rfl rfl rfl hd_M_drop ⟨x_fr hR.1 rfl, x_fr hR.2 rfl⟩) lm0 cX8 rfl hl.1 rfl (Nat.le_of_ble_eq_true rfl) dX8_comes_67 ⟨Nat.zero_le _, Nat.zero_le _⟩ (fun σ10 H locs hV hw => ?_)
          exact hret σ10 H locs ls 70 hV hw dX8_comes_70
  refine x_if_lt X rfl 41 dX8_comes_8 (by decide) (fun hc => ?_) (fun hc => ?_)
  · replace hV := hV.1 hc
    exact hJ41 σ3 H locs ls hV hw hl
  · replace hV := hV.2 hc
    refine x_aload_n X dX8_comes_11 rfl (lv_at hl 1 rfl) ?_
    refine x_getr X hw lm0 cX8 22 (by decide) rfl n_M_comes_1 n_M_comes_2 dX8_comes_12 ?_
    refine x_iload_n X dX8_comes_15 rfl (lv_at hl 0 rfl) ?_
    obtain ⟨hi, hV⟩ := hV
    refine x_iald X hw lm18 rfl rfl hi dX8_comes_16 ?_
    refine x_iload_n X dX8_comes_17 rfl (lv_at hl 2 rfl) ?_
    refine x_iconst X dX8_comes_18 ?_
    refine x_isub X dX8_comes_19 ?_
    refine x_icmp_lt X rfl rfl 35 dX8_comes_20 (by decide) (fun hc => ?_) (fun hc => ?_)
    · replace hV := hV.1 hc
      refine x_iinc X (k := 0) (x3_2 + (-1)) [(3, iV (x3_2 + (-1))), (0, .ref (ad 0)), (1, iV a1), (2, iV a2)] dX8_comes_35 hl rfl rfl (by decide) rfl (fun ls hl => ?_)
      refine x_goto X 7 dX8_comes_38 (by decide) ?_
      exact hbk4 (x3_2 + (-1)) σ3 hV H locs ls hw hl
    · replace hV := hV.2 hc
      refine x_aload_n X dX8_comes_23 rfl (lv_at hl 1 rfl) ?_
      refine x_getr X hw lm0 cX8 22 (by decide) rfl n_M_comes_1 n_M_comes_2 dX8_comes_24 ?_
      refine x_iload_n X dX8_comes_27 rfl (lv_at hl 0 rfl) ?_
      obtain ⟨hi, hV⟩ := hV
      refine x_iald X hw lm18 rfl rfl hi dX8_comes_28 ?_
      refine x_iload_n X dX8_comes_29 rfl (lv_at hl 2 rfl) ?_
      refine x_iconst X dX8_comes_30 ?_
      refine x_iadd X dX8_comes_31 ?_
      refine x_icmp_le X rfl rfl 41 dX8_comes_32 (by decide) (fun hc => ?_) (fun hc => ?_)
      · replace hV := hV.1 hc
        exact hJ41 σ3 H locs ls hV hw hl
      · replace hV := hV.2 hc
        refine x_iinc X (k := 0) (x3_2 + (-1)) [(3, iV (x3_2 + (-1))), (0, .ref (ad 0)), (1, iV a1), (2, iV a2)] dX8_comes_35 hl rfl rfl (by decide) rfl (fun ls hl => ?_)
        refine x_goto X 7 dX8_comes_38 (by decide) ?_
        exact hbk4 (x3_2 + (-1)) σ3 hV H locs ls hw hl

theorem n_M_layers_0 : Cond.fieldLink RX8 210 "LacePillowModel" "left" "I" ∈ wsX8_layers := by decide +kernel
theorem n_M_layers_1 : ∀ w ∈ wsX80, w ∈ wsX8_layers := by decide +kernel
theorem n_M_layers_2 : Cond.fieldLink RX8 186 "LacePillowModel" "crossings" "I" ∈ wsX8_layers := by decide +kernel
theorem n_M_layers_3 : Cond.fieldLink RX8 68 "LacePillowModel" "layerOf" "[I" ∈ wsX8_layers := by decide +kernel
theorem n_M_layers_4 : Cond.fieldLink RX8 62 "LacePillowModel" "leftPlace" "[I" ∈ wsX8_layers := by decide +kernel
theorem n_M_layers_5 : Cond.fieldLink RX8 47 "LacePillowModel" "place" "[I" ∈ wsX8_layers := by decide +kernel
theorem n_M_layers_6 : Cond.fieldLink RX8 50 "LacePillowModel" "sign" "[I" ∈ wsX8_layers := by decide +kernel
set_option maxHeartbeats 4000000 in
set_option maxRecDepth 100000 in
theorem c_M_layers (l : Launch) (G : GT) (ad : Nat → Nat) (hI : Inj LM ad) (σ : St) {Q : Int → St → Prop} (hV : V_M_layers σ Q) : Met l yX8_layers wsX8_layers (rmx 2 45) (Pq vwCl G LM ad σ [.ref (ad 0)]) (Qi vwCl G LM ad Q) 0 0 (Ax LM ad) := by
  unfold V_M_layers at hV
  refine x_meti (own := RX8) (by decide) rfl rfl (Nat.le_of_ble_eq_true rfl) hI ?_
  intro p e s m args below meth c R QQ X hR hret ls hl hw
  replace hl : lv_has ls 5 [(0, .ref (ad 0))] := hl
  obtain ⟨H, hH⟩ : ∃ z, z = s.heap := ⟨_, rfl⟩
  obtain ⟨locs, hlo⟩ : ∃ z : List Loc, z = [] := ⟨_, rfl⟩
  rw [← hH, ← hlo]
  replace hw : Wx vwCl G LM ad s H locs σ := by rw [hH, hlo]; exact hw
  clear hH hlo
  refine x_aload_n X dX8_layers_0 rfl (lv_at hl 0 rfl) ?_
  refine x_iconst X dX8_layers_1 ?_
  refine x_puti X hw lm0 cX8 21 (by decide) rfl n_M_layers_1 n_M_layers_0 tyX8 tyX8_ok nmX8 rfl rfl rfl dX8_layers_2 (fun H locs σ1 hs hw => ?_)
  replace hV := hV σ1 hs
  refine x_iconst X dX8_layers_5 ?_
  refine x_istore_n X [(1, iV 0), (0, .ref (ad 0))] dX8_layers_6 rfl hl (by decide) rfl (fun ls hl => ?_)
  refine WL1.use (Gl := fun x1_2 σ3 => ∀ (H : Heap) (locs : List Loc) (ls : Array Slot), Wx vwCl G LM ad s H locs σ3 → lv_has ls 5 [(1, iV x1_2), (0, .ref (ad 0))] → W p l e R s m args below meth c H locs 0 0 QQ (F0 m 7 ls [])) ?_ hV H locs ls hw hl
  clear hV hw hl H locs ls
  intro bk4 x1_2 σ3 hbk4 hV H locs ls hw hl
  refine x_iload_n X dX8_layers_7 rfl (lv_at hl 0 rfl) ?_
  refine x_aload_n X dX8_layers_8 rfl (lv_at hl 1 rfl) ?_
  refine x_geti X hw lm0 cX8 15 (by decide) rfl n_M_layers_1 n_M_layers_2 dX8_layers_9 ?_
  refine x_icmp_ge X rfl rfl 37 dX8_layers_12 (by decide) (fun hc => ?_) (fun hc => ?_)
  · replace hV := hV.1 hc
    refine x_iconst X dX8_layers_37 ?_
    refine x_istore_n X [(1, iV 0), (0, .ref (ad 0))] dX8_layers_38 rfl hl (by decide) rfl (fun ls hl => ?_)
    refine x_iconst X dX8_layers_39 ?_
    refine x_istore_n X [(2, iV 0), (1, iV 0), (0, .ref (ad 0))] dX8_layers_40 rfl hl (by decide) rfl (fun ls hl => ?_)
    refine WL2.use (Gl := fun x2_5 x1_6 σ7 => ∀ (H : Heap) (locs : List Loc) (ls : Array Slot), Wx vwCl G LM ad s H locs σ7 → lv_has ls 5 [(2, iV x2_5), (1, iV x1_6), (0, .ref (ad 0))] → W p l e R s m args below meth c H locs 0 0 QQ (F0 m 41 ls [])) ?_ hV H locs ls hw hl
    clear hV hw hl H locs ls
    intro bk8 x2_5 x1_6 σ7 hbk8 hV H locs ls hw hl
    refine x_iload_n X dX8_layers_41 rfl (lv_at hl 0 rfl) ?_
    refine x_aload_n X dX8_layers_42 rfl (lv_at hl 2 rfl) ?_
    refine x_geti X hw lm0 cX8 21 (by decide) rfl n_M_layers_1 n_M_layers_0 dX8_layers_43 ?_
    refine x_icmp_ge X rfl rfl 155 dX8_layers_46 (by decide) (fun hc => ?_) (fun hc => ?_)
    · replace hV := hV.1 hc
      refine x_iload_n X dX8_layers_155 rfl (lv_at hl 1 rfl) ?_
      exact hret x1_6 σ7 H locs ls 156 hV hw dX8_layers_156
    · replace hV := hV.2 hc
      refine x_aload_n X dX8_layers_49 rfl (lv_at hl 2 rfl) ?_
      refine x_getr X hw lm0 cX8 24 (by decide) rfl n_M_layers_1 n_M_layers_3 dX8_layers_50 ?_
      refine x_iload_n X dX8_layers_53 rfl (lv_at hl 0 rfl) ?_
      refine x_iconst X dX8_layers_54 ?_
      obtain ⟨hi, hV⟩ := hV
      refine x_iast X hw lm20 rfl rfl hi dX8_layers_55 (fun H locs σ9 hs hw => ?_)
      replace hV := hV σ9 hs
      refine x_iconst X dX8_layers_56 ?_
      refine x_istore_n X [(3, iV 0), (2, iV x2_5), (1, iV x1_6), (0, .ref (ad 0))] dX8_layers_57 rfl hl (by decide) rfl (fun ls hl => ?_)
      refine WL1.use (Gl := fun x3_10 σ11 => ∀ (H : Heap) (locs : List Loc) (ls : Array Slot), Wx vwCl G LM ad s H locs σ11 → lv_has ls 5 [(3, iV x3_10), (2, iV x2_5), (1, iV x1_6), (0, .ref (ad 0))] → W p l e R s m args below meth c H locs 0 0 QQ (F0 m 58 ls [])) ?_ hV H locs ls hw hl
      clear hV hw hl H locs ls
      intro bk12 x3_10 σ11 hbk12 hV H locs ls hw hl
      refine x_iload_n X dX8_layers_58 rfl (lv_at hl 0 rfl) ?_
      refine x_iload_n X dX8_layers_59 rfl (lv_at hl 1 rfl) ?_
      refine x_icmp_ge X rfl rfl 126 dX8_layers_60 (by decide) (fun hc => ?_) (fun hc => ?_)
      · replace hV := hV.1 hc
        refine x_aload_n X dX8_layers_126 rfl (lv_at hl 3 rfl) ?_
        refine x_getr X hw lm0 cX8 24 (by decide) rfl n_M_layers_1 n_M_layers_3 dX8_layers_127 ?_
        refine x_iload_n X dX8_layers_130 rfl (lv_at hl 1 rfl) ?_
        obtain ⟨hi, hV⟩ := hV
        refine x_iald X hw lm20 rfl rfl hi dX8_layers_131 ?_
        refine x_iload_n X dX8_layers_132 rfl (lv_at hl 2 rfl) ?_
        refine x_icmp_lt X rfl rfl 147 dX8_layers_133 (by decide) (fun hc => ?_) (fun hc => ?_)
        · replace hV := hV.1 hc
          refine x_iload_n X dX8_layers_147 rfl (lv_at hl 2 rfl) ?_
          refine x_istore_n X [(1, iV x1_6), (3, iV x3_10), (2, iV x2_5), (0, .ref (ad 0))] dX8_layers_148 rfl hl (by decide) rfl (fun ls hl => ?_)
          refine x_iinc X (k := 2) (x2_5 + 1) [(2, iV (x2_5 + 1)), (1, iV x1_6), (3, iV x3_10), (0, .ref (ad 0))] dX8_layers_149 hl rfl rfl (by decide) rfl (fun ls hl => ?_)
          refine x_goto X 41 dX8_layers_152 (by decide) ?_
          exact hbk8 (x2_5 + 1) x1_6 σ11 hV H locs ls hw (lv_sub hl [0, 1, 3] rfl)
        · replace hV := hV.2 hc
          refine x_aload_n X dX8_layers_136 rfl (lv_at hl 3 rfl) ?_
          refine x_getr X hw lm0 cX8 24 (by decide) rfl n_M_layers_1 n_M_layers_3 dX8_layers_137 ?_
          refine x_iload_n X dX8_layers_140 rfl (lv_at hl 1 rfl) ?_
          obtain ⟨hi, hV⟩ := hV
          refine x_iald X hw lm20 rfl rfl hi dX8_layers_141 ?_
          refine x_iconst X dX8_layers_142 ?_
          refine x_iadd X dX8_layers_143 ?_
          refine x_goto X 148 dX8_layers_144 (by decide) ?_
          refine x_bi (fun x1_13 ex1_13 => ?_)
          replace hV := hV x1_13 ex1_13
          clear ex1_13
          refine x_istore_n X [(1, iV x1_13), (3, iV x3_10), (2, iV x2_5), (0, .ref (ad 0))] dX8_layers_148 rfl hl (by decide) rfl (fun ls hl => ?_)
          refine x_iinc X (k := 2) (x2_5 + 1) [(2, iV (x2_5 + 1)), (1, iV x1_13), (3, iV x3_10), (0, .ref (ad 0))] dX8_layers_149 hl rfl rfl (by decide) rfl (fun ls hl => ?_)
          refine x_goto X 41 dX8_layers_152 (by decide) ?_
          exact hbk8 (x2_5 + 1) x1_13 σ11 hV H locs ls hw (lv_sub hl [0, 1, 3] rfl)
      · replace hV := hV.2 hc
        refine x_aload_n X dX8_layers_63 rfl (lv_at hl 3 rfl) ?_
        refine x_getr X hw lm0 cX8 22 (by decide) rfl n_M_layers_1 n_M_layers_4 dX8_layers_64 ?_
        refine x_iload_n X dX8_layers_67 rfl (lv_at hl 0 rfl) ?_
        obtain ⟨hi, hV⟩ := hV
        refine x_iald X hw lm18 rfl rfl hi dX8_layers_68 ?_
        refine x_aload_n X dX8_layers_69 rfl (lv_at hl 3 rfl) ?_
        refine x_getr X hw lm0 cX8 22 (by decide) rfl n_M_layers_1 n_M_layers_4 dX8_layers_70 ?_
        refine x_iload_n X dX8_layers_73 rfl (lv_at hl 1 rfl) ?_
        obtain ⟨hi, hV⟩ := hV
        refine x_iald X hw lm18 rfl rfl hi dX8_layers_74 ?_
        refine x_isub X dX8_layers_75 ?_
        refine x_bi (fun x4_14 ex4_14 => ?_)
        replace hV := hV x4_14 ex4_14
        clear ex4_14
        refine x_istore X [(4, iV x4_14), (3, iV x3_10), (2, iV x2_5), (1, iV x1_6), (0, .ref (ad 0))] dX8_layers_76 hl (by decide) rfl (fun ls hl => ?_)
        refine x_iload X dX8_layers_78 (lv_at hl 0 rfl) ?_
        refine x_bipush X dX8_layers_80 (by decide) ?_
        refine x_icmp_le X rfl k32_m2 120 dX8_layers_82 (by decide) (fun hc => ?_) (fun hc => ?_)
        · replace hV := hV.1 hc
          refine x_iinc X (k := 1) (x3_10 + 1) [(3, iV (x3_10 + 1)), (4, iV x4_14), (2, iV x2_5), (1, iV x1_6), (0, .ref (ad 0))] dX8_layers_120 hl rfl rfl (by decide) rfl (fun ls hl => ?_)
          refine x_goto X 58 dX8_layers_123 (by decide) ?_
          exact hbk12 (x3_10 + 1) σ11 hV H locs ls hw (lv_sub hl [0, 2, 3, 4] rfl)
        · replace hV := hV.2 hc
          refine x_iload X dX8_layers_85 (lv_at hl 0 rfl) ?_
          refine x_iconst X dX8_layers_87 ?_
          refine x_icmp_ge X rfl k32_2 120 dX8_layers_88 (by decide) (fun hc => ?_) (fun hc => ?_)
          · replace hV := hV.1 hc
            refine x_iinc X (k := 1) (x3_10 + 1) [(3, iV (x3_10 + 1)), (4, iV x4_14), (2, iV x2_5), (1, iV x1_6), (0, .ref (ad 0))] dX8_layers_120 hl rfl rfl (by decide) rfl (fun ls hl => ?_)
            refine x_goto X 58 dX8_layers_123 (by decide) ?_
            exact hbk12 (x3_10 + 1) σ11 hV H locs ls hw (lv_sub hl [0, 2, 3, 4] rfl)
          · replace hV := hV.2 hc
            refine x_aload_n X dX8_layers_91 rfl (lv_at hl 4 rfl) ?_
            refine x_getr X hw lm0 cX8 24 (by decide) rfl n_M_layers_1 n_M_layers_3 dX8_layers_92 ?_
            refine x_iload_n X dX8_layers_95 rfl (lv_at hl 1 rfl) ?_
            obtain ⟨hi, hV⟩ := hV
            refine x_iald X hw lm20 rfl rfl hi dX8_layers_96 ?_
            refine x_aload_n X dX8_layers_97 rfl (lv_at hl 4 rfl) ?_
            refine x_getr X hw lm0 cX8 24 (by decide) rfl n_M_layers_1 n_M_layers_3 dX8_layers_98 ?_
            refine x_iload_n X dX8_layers_101 rfl (lv_at hl 2 rfl) ?_
            obtain ⟨hi, hV⟩ := hV
            refine x_iald X hw lm20 rfl rfl hi dX8_layers_102 ?_
            refine x_icmp_lt X rfl rfl 120 dX8_layers_103 (by decide) (fun hc => ?_) (fun hc => ?_)
            · replace hV := hV.1 hc
              refine x_iinc X (k := 1) (x3_10 + 1) [(3, iV (x3_10 + 1)), (4, iV x4_14), (2, iV x2_5), (1, iV x1_6), (0, .ref (ad 0))] dX8_layers_120 hl rfl rfl (by decide) rfl (fun ls hl => ?_)
              refine x_goto X 58 dX8_layers_123 (by decide) ?_
              exact hbk12 (x3_10 + 1) σ11 hV H locs ls hw (lv_sub hl [0, 2, 3, 4] rfl)
            · replace hV := hV.2 hc
              refine x_aload_n X dX8_layers_106 rfl (lv_at hl 4 rfl) ?_
              refine x_getr X hw lm0 cX8 24 (by decide) rfl n_M_layers_1 n_M_layers_3 dX8_layers_107 ?_
              refine x_iload_n X dX8_layers_110 rfl (lv_at hl 2 rfl) ?_
              refine x_aload_n X dX8_layers_111 rfl (lv_at hl 4 rfl) ?_
              refine x_getr X hw lm0 cX8 24 (by decide) rfl n_M_layers_1 n_M_layers_3 dX8_layers_112 ?_
              refine x_iload_n X dX8_layers_115 rfl (lv_at hl 1 rfl) ?_
              obtain ⟨hi, hV⟩ := hV
              refine x_iald X hw lm20 rfl rfl hi dX8_layers_116 ?_
              refine x_iconst X dX8_layers_117 ?_
              refine x_iadd X dX8_layers_118 ?_
              obtain ⟨hi, hV⟩ := hV
              refine x_iast X hw lm20 rfl rfl hi dX8_layers_119 (fun H locs σ15 hs hw => ?_)
              replace hV := hV σ15 hs
              refine x_iinc X (k := 1) (x3_10 + 1) [(3, iV (x3_10 + 1)), (4, iV x4_14), (2, iV x2_5), (1, iV x1_6), (0, .ref (ad 0))] dX8_layers_120 hl rfl rfl (by decide) rfl (fun ls hl => ?_)
              refine x_goto X 58 dX8_layers_123 (by decide) ?_
              exact hbk12 (x3_10 + 1) σ15 hV H locs ls hw (lv_sub hl [0, 2, 3, 4] rfl)
  · replace hV := hV.2 hc
    refine x_aload_n X dX8_layers_15 rfl (lv_at hl 1 rfl) ?_
    refine x_aload_n X dX8_layers_16 rfl (lv_at hl 1 rfl) ?_
    refine x_getr X hw lm0 cX8 16 (by decide) rfl n_M_layers_1 n_M_layers_5 dX8_layers_17 ?_
    refine x_iload_n X dX8_layers_20 rfl (lv_at hl 0 rfl) ?_
    obtain ⟨hi, hV⟩ := hV
    refine x_iald X hw lm13 rfl rfl hi dX8_layers_21 ?_
    refine x_aload_n X dX8_layers_22 rfl (lv_at hl 1 rfl) ?_
    refine x_getr X hw lm0 cX8 17 (by decide) rfl n_M_layers_1 n_M_layers_6 dX8_layers_23 ?_
    refine x_iload_n X dX8_layers_26 rfl (lv_at hl 0 rfl) ?_
    obtain ⟨hi, hV⟩ := hV
    refine x_iald X hw lm14 rfl rfl hi dX8_layers_27 ?_
    refine x_cvv X hw [iV (σ3 13 (i32 x1_2)), iV (σ3 14 (i32 x1_2))] [] (c_M_comes l G ad hI σ3 (σ3 13 (i32 x1_2)) (σ3 14 (i32 x1_2)) hV) (cwV 2 X.2.2.2.2 gX8_layers_X8_comes rfl rfl rfl hd_M_comes ⟨x_fr hR.1 rfl, x_fr hR.2 rfl⟩) lm0 cX8 rfl hl.1 rfl (Nat.le_of_ble_eq_true rfl) dX8_layers_28 ⟨Nat.zero_le _, Nat.zero_le _⟩ (fun σ16 H locs hV hw => ?_)
    refine x_iinc X (k := 0) (x1_2 + 1) [(1, iV (x1_2 + 1)), (0, .ref (ad 0))] dX8_layers_31 hl rfl rfl (by decide) rfl (fun ls hl => ?_)
    refine x_goto X 7 dX8_layers_34 (by decide) ?_
    exact hbk4 (x1_2 + 1) σ16 hV H locs ls hw hl

theorem n_M_signIn_0 : Cond.fieldLink RX8 210 "LacePillowModel" "left" "I" ∈ wsX8_signIn := by decide +kernel
theorem n_M_signIn_1 : ∀ w ∈ wsX80, w ∈ wsX8_signIn := by decide +kernel
theorem n_M_signIn_2 : Cond.fieldLink RX8 62 "LacePillowModel" "leftPlace" "[I" ∈ wsX8_signIn := by decide +kernel
theorem n_M_signIn_3 : Cond.fieldLink RX8 68 "LacePillowModel" "layerOf" "[I" ∈ wsX8_signIn := by decide +kernel
theorem n_M_signIn_4 : Cond.fieldLink RX8 65 "LacePillowModel" "leftSign" "[I" ∈ wsX8_signIn := by decide +kernel
set_option maxHeartbeats 4000000 in
set_option maxRecDepth 100000 in
theorem c_M_signIn (l : Launch) (G : GT) (ad : Nat → Nat) (hI : Inj LM ad) (σ : St) (a1 : Int) (a2 : Int) {Q : Int → St → Prop} (hV : V_M_signIn σ a1 a2 Q) : Met l yX8_signIn wsX8_signIn (rmx 0 0) (Pq vwCl G LM ad σ [.ref (ad 0), iV a1, iV a2]) (Qi vwCl G LM ad Q) 0 0 (Ax LM ad) := by
  unfold V_M_signIn at hV
  refine x_meti (own := RX8) (by decide) rfl rfl (Nat.le_of_ble_eq_true rfl) hI ?_
  intro p e s m args below meth c R QQ X hR hret ls hl hw
  replace hl : lv_has ls 4 [(0, .ref (ad 0)), (1, iV a1), (2, iV a2)] := hl
  obtain ⟨H, hH⟩ : ∃ z, z = s.heap := ⟨_, rfl⟩
  obtain ⟨locs, hlo⟩ : ∃ z : List Loc, z = [] := ⟨_, rfl⟩
  rw [← hH, ← hlo]
  replace hw : Wx vwCl G LM ad s H locs σ := by rw [hH, hlo]; exact hw
  clear hH hlo
  refine x_iconst X dX8_signIn_0 ?_
  refine x_istore_n X [(3, iV 0), (0, .ref (ad 0)), (1, iV a1), (2, iV a2)] dX8_signIn_1 rfl hl (by decide) rfl (fun ls hl => ?_)
  refine WL1.use (Gl := fun x3_1 σ2 => ∀ (H : Heap) (locs : List Loc) (ls : Array Slot), Wx vwCl G LM ad s H locs σ2 → lv_has ls 4 [(3, iV x3_1), (0, .ref (ad 0)), (1, iV a1), (2, iV a2)] → W p l e R s m args below meth c H locs 0 0 QQ (F0 m 2 ls [])) ?_ hV H locs ls hw hl
  clear hV hw hl H locs ls
  intro bk3 x3_1 σ2 hbk3 hV H locs ls hw hl
  refine x_iload_n X dX8_signIn_2 rfl (lv_at hl 0 rfl) ?_
  refine x_aload_n X dX8_signIn_3 rfl (lv_at hl 1 rfl) ?_
  refine x_geti X hw lm0 cX8 21 (by decide) rfl n_M_signIn_1 n_M_signIn_0 dX8_signIn_4 ?_
  refine x_icmp_ge X rfl rfl 43 dX8_signIn_7 (by decide) (fun hc => ?_) (fun hc => ?_)
  · replace hV := hV.1 hc
    refine x_iconst X dX8_signIn_43 ?_
    exact hret 0 σ2 H locs ls 44 hV hw dX8_signIn_44
  · replace hV := hV.2 hc
    refine x_aload_n X dX8_signIn_10 rfl (lv_at hl 1 rfl) ?_
    refine x_getr X hw lm0 cX8 22 (by decide) rfl n_M_signIn_1 n_M_signIn_2 dX8_signIn_11 ?_
    refine x_iload_n X dX8_signIn_14 rfl (lv_at hl 0 rfl) ?_
    obtain ⟨hi, hV⟩ := hV
    refine x_iald X hw lm18 rfl rfl hi dX8_signIn_15 ?_
    refine x_iload_n X dX8_signIn_16 rfl (lv_at hl 3 rfl) ?_
    refine x_icmp_ne X rfl rfl 37 dX8_signIn_17 (by decide) (fun hc => ?_) (fun hc => ?_)
    · replace hV := hV.1 hc
      refine x_iinc X (k := 0) (x3_1 + 1) [(3, iV (x3_1 + 1)), (0, .ref (ad 0)), (1, iV a1), (2, iV a2)] dX8_signIn_37 hl rfl rfl (by decide) rfl (fun ls hl => ?_)
      refine x_goto X 2 dX8_signIn_40 (by decide) ?_
      exact hbk3 (x3_1 + 1) σ2 hV H locs ls hw hl
    · replace hV := hV.2 hc
      refine x_aload_n X dX8_signIn_20 rfl (lv_at hl 1 rfl) ?_
      refine x_getr X hw lm0 cX8 24 (by decide) rfl n_M_signIn_1 n_M_signIn_3 dX8_signIn_21 ?_
      refine x_iload_n X dX8_signIn_24 rfl (lv_at hl 0 rfl) ?_
      obtain ⟨hi, hV⟩ := hV
      refine x_iald X hw lm20 rfl rfl hi dX8_signIn_25 ?_
      refine x_iload_n X dX8_signIn_26 rfl (lv_at hl 2 rfl) ?_
      refine x_icmp_ne X rfl rfl 37 dX8_signIn_27 (by decide) (fun hc => ?_) (fun hc => ?_)
      · replace hV := hV.1 hc
        refine x_iinc X (k := 0) (x3_1 + 1) [(3, iV (x3_1 + 1)), (0, .ref (ad 0)), (1, iV a1), (2, iV a2)] dX8_signIn_37 hl rfl rfl (by decide) rfl (fun ls hl => ?_)
        refine x_goto X 2 dX8_signIn_40 (by decide) ?_
        exact hbk3 (x3_1 + 1) σ2 hV H locs ls hw hl
      · replace hV := hV.2 hc
        refine x_aload_n X dX8_signIn_30 rfl (lv_at hl 1 rfl) ?_
        refine x_getr X hw lm0 cX8 23 (by decide) rfl n_M_signIn_1 n_M_signIn_4 dX8_signIn_31 ?_
        refine x_iload_n X dX8_signIn_34 rfl (lv_at hl 0 rfl) ?_
        obtain ⟨hi, hV⟩ := hV
        refine x_iald X hw lm19 rfl rfl hi dX8_signIn_35 ?_
        exact hret (σ2 19 (i32 x3_1)) σ2 H locs ls 36 hV hw dX8_signIn_36

theorem n_M_word_0 : Cond.constantLong RX8 163 (5) ∈ wsX8_word := by decide +kernel
theorem n_M_word_1 : Cond.constant RX8 149 (-1000000001) ∈ wsX8_word := by decide +kernel
theorem n_M_word_2 : Cond.constantLong RX8 219 (7) ∈ wsX8_word := by decide +kernel
theorem n_M_word_3 : Cond.fieldLink RX8 186 "LacePillowModel" "crossings" "I" ∈ wsX8_word := by decide +kernel
theorem n_M_word_4 : ∀ w ∈ wsX80, w ∈ wsX8_word := by decide +kernel
theorem n_M_word_5 : Cond.fieldLink RX8 41 "LacePillowModel" "at" "[I" ∈ wsX8_word := by decide +kernel
theorem n_M_word_6 : Cond.fieldLink RX8 210 "LacePillowModel" "left" "I" ∈ wsX8_word := by decide +kernel
theorem n_M_word_7 : Cond.fieldLink RX8 9 "LacePillowModel" "now" "[I" ∈ wsX8_word := by decide +kernel
set_option maxHeartbeats 4000000 in
set_option maxRecDepth 100000 in
theorem c_M_word (l : Launch) (G : GT) (ad : Nat → Nat) (hI : Inj LM ad) (σ : St) (a1 : Int) (a2 : Int) {Q : Int → St → Prop} (hV : V_M_word σ a1 a2 Q) : Met l yX8_word wsX8_word (rmx 3 69) (Pq vwCl G LM ad σ [.ref (ad 0), iV a1, iV a2]) (Qi vwCl G LM ad Q) 0 0 (Ax LM ad) := by
  unfold V_M_word at hV
  refine x_meti (own := RX8) (by decide) rfl rfl (Nat.le_of_ble_eq_true rfl) hI ?_
  intro p e s m args below meth c R QQ X hR hret ls hl hw
  replace hl : lv_has ls 5 [(0, .ref (ad 0)), (1, iV a1), (2, iV a2)] := hl
  obtain ⟨H, hH⟩ : ∃ z, z = s.heap := ⟨_, rfl⟩
  obtain ⟨locs, hlo⟩ : ∃ z : List Loc, z = [] := ⟨_, rfl⟩
  rw [← hH, ← hlo]
  replace hw : Wx vwCl G LM ad s H locs σ := by rw [hH, hlo]; exact hw
  clear hH hlo
  refine x_iload_n X dX8_word_0 rfl (lv_at hl 1 rfl) ?_
  refine x_i2l X dX8_word_1 ?_
  refine x_lconst X 0 dX8_word_2 rfl ?_
  refine x_ldc2 X 5 n_M_word_0 (by decide) dX8_word_3 ?_
  refine x_csz X hw [lV (i32 a1), lV 0, lV 5] [] (c_M_in l G ad hI σ (i32 a1) 0 5 hV) (va_cwS 3 X.2.2.2.2 gX8_word_X8_in rfl rfl rfl hd_M_in ⟨x_fr hR.1 rfl, x_fr hR.2 rfl⟩) rfl hl.1 rfl (Nat.le_of_ble_eq_true rfl) dX8_word_6 ⟨Nat.zero_le _, Nat.zero_le _⟩ (fun r2 σ1 H locs hr2 hV hw => ?_)
  refine x_if_eq X rfl 24 dX8_word_9 (by decide) (fun hc => ?_) (fun hc => ?_)
  · replace hV := hV.1 hc
    refine x_aload_n X dX8_word_24 rfl (lv_at hl 0 rfl) ?_
    refine x_ldc X (-1000000001) n_M_word_1 (by decide) dX8_word_25 ?_
    refine x_cvi X hw [iV (-1000000001)] [] (c_M_errs l G ad hI σ1 (-1000000001) hV) (cwV 1 X.2.2.2.2 gX8_word_X8_errs rfl rfl rfl hd_M_errs ⟨x_fr hR.1 rfl, x_fr hR.2 rfl⟩) lm0 cX8 rfl hl.1 rfl (Nat.le_of_ble_eq_true rfl) dX8_word_27 ⟨Nat.zero_le _, Nat.zero_le _⟩ (fun r4 σ3 H locs hV hw => ?_)
    exact hret r4 σ3 H locs ls 30 hV hw dX8_word_30
  · replace hV := hV.2 hc
    refine x_iload_n X dX8_word_12 rfl (lv_at hl 2 rfl) ?_
    refine x_i2l X dX8_word_13 ?_
    refine x_lconst X 0 dX8_word_14 rfl ?_
    refine x_ldc2 X 7 n_M_word_2 (by decide) dX8_word_15 ?_
    refine x_csz X hw [lV (i32 a2), lV 0, lV 7] [] (c_M_in l G ad hI σ1 (i32 a2) 0 7 hV) (va_cwS 3 X.2.2.2.2 gX8_word_X8_in rfl rfl rfl hd_M_in ⟨x_fr hR.1 rfl, x_fr hR.2 rfl⟩) rfl hl.1 rfl (Nat.le_of_ble_eq_true rfl) dX8_word_18 ⟨Nat.zero_le _, Nat.zero_le _⟩ (fun r6 σ5 H locs hr6 hV hw => ?_)
    refine x_if_ne X rfl 31 dX8_word_21 (by decide) (fun hc => ?_) (fun hc => ?_)
    · replace hV := hV.1 hc
      refine x_iload_n X dX8_word_31 rfl (lv_at hl 2 rfl) ?_
      refine x_if_ne X rfl 48 dX8_word_32 (by decide) (fun hc => ?_) (fun hc => ?_)
      · replace hV := hV.1 hc
        refine x_aload_n X dX8_word_48 rfl (lv_at hl 0 rfl) ?_
        refine x_cvv X hw [] [] (c_M_begins l G ad hI σ5 hV) (cwV 0 X.2.2.2.2 gX8_word_X8_begins rfl rfl rfl hd_M_begins ⟨x_fr hR.1 rfl, x_fr hR.2 rfl⟩) lm0 cX8 rfl hl.1 rfl (Nat.le_of_ble_eq_true rfl) dX8_word_49 ⟨Nat.zero_le _, Nat.zero_le _⟩ (fun σ7 H locs hV hw => ?_)
        refine x_aload_n X dX8_word_52 rfl (lv_at hl 0 rfl) ?_
        refine x_iload_n X dX8_word_53 rfl (lv_at hl 1 rfl) ?_
        refine x_iconst X dX8_word_54 ?_
        refine x_iconst X dX8_word_55 ?_
        refine x_cvv X hw [iV a1, iV 0, iV 0] [] (c_M_spells l G ad hI σ7 a1 0 0 hV) (cwV 3 X.2.2.2.2 gX8_word_X8_spells rfl rfl rfl hd_M_spells ⟨x_fr hR.1 rfl, x_fr hR.2 rfl⟩) lm0 cX8 rfl hl.1 rfl (Nat.le_of_ble_eq_true rfl) dX8_word_56 ⟨Nat.zero_le _, Nat.zero_le _⟩ (fun σ8 H locs hV hw => ?_)
        refine x_aload_n X dX8_word_59 rfl (lv_at hl 0 rfl) ?_
        refine x_geti X hw lm0 cX8 15 (by decide) rfl n_M_word_4 n_M_word_3 dX8_word_60 ?_
        refine x_bi (fun x3_9 ex3_9 => ?_)
        replace hV := hV x3_9 ex3_9
        clear ex3_9
        refine x_istore_n X [(3, iV x3_9), (0, .ref (ad 0)), (1, iV a1), (2, iV a2)] dX8_word_63 rfl hl (by decide) rfl (fun ls hl => ?_)
        refine x_iload_n X dX8_word_64 rfl (lv_at hl 3 rfl) ?_
        refine x_iconst X dX8_word_65 ?_
        refine x_icmp_ne X rfl k32_1 71 dX8_word_66 (by decide) (fun hc => ?_) (fun hc => ?_)
        · replace hV := hV.1 hc
          refine x_iload_n X dX8_word_71 rfl (lv_at hl 3 rfl) ?_
          refine x_iconst X dX8_word_72 ?_
          refine x_icmp_ne X rfl k32_2 87 dX8_word_73 (by decide) (fun hc => ?_) (fun hc => ?_)
          · replace hV := hV.1 hc
            refine x_iload_n X dX8_word_87 rfl (lv_at hl 3 rfl) ?_
            refine x_iconst X dX8_word_88 ?_
            refine x_icmp_le X rfl k32_3 117 dX8_word_89 (by decide) (fun hc => ?_) (fun hc => ?_)
            · replace hV := hV.1 hc
              refine x_iconst X dX8_word_117 ?_
              refine x_istore X [(4, iV 1), (3, iV x3_9), (0, .ref (ad 0)), (1, iV a1), (2, iV a2)] dX8_word_118 hl (by decide) rfl (fun ls hl => ?_)
              refine WL1.use (Gl := fun x4_10 σ11 => ∀ (H : Heap) (locs : List Loc) (ls : Array Slot), Wx vwCl G LM ad s H locs σ11 → lv_has ls 5 [(4, iV x4_10), (0, .ref (ad 0)), (1, iV a1)] → W p l e R s m args below meth c H locs 0 0 QQ (F0 m 120 ls [])) ?_ hV H locs ls hw (lv_sub hl [0, 2, 3] rfl)
              clear hV hw hl H locs ls
              intro bk12 x4_10 σ11 hbk12 hV H locs ls hw hl
              refine x_aload_n X dX8_word_120 rfl (lv_at hl 1 rfl) ?_
              refine x_getr X hw lm0 cX8 13 (by decide) rfl n_M_word_4 n_M_word_5 dX8_word_121 ?_
              refine x_iconst X dX8_word_124 ?_
              refine x_iald X hw lm11 k32_0 rfl (show (0 : Int) ≤ 0 ∧ (0 : Int) < 16 by decide) dX8_word_125 ?_
              have hJ159 : ∀ (σ13 : St) (H : Heap) (locs : List Loc) (ls : Array Slot), J_M_word_159 a1 x4_10 bk12 σ13 → Wx vwCl G LM ad s H locs σ13 → lv_has ls 5 [(4, iV x4_10), (0, .ref (ad 0)), (1, iV a1)] → W p l e R s m args below meth c H locs 0 0 QQ (F0 m 159 ls []) := by
                intro σ13 H locs ls hV hw hl
                unfold J_M_word_159 at hV
                refine x_aload_n X dX8_word_159 rfl (lv_at hl 1 rfl) ?_
                refine x_iconst X dX8_word_160 ?_
                refine x_puti X hw lm0 cX8 15 (by decide) rfl n_M_word_4 n_M_word_3 tyX8 tyX8_ok nmX8 rfl rfl rfl dX8_word_161 (fun H locs σ14 hs hw => ?_)
                replace hV := hV σ14 hs
                refine x_aload_n X dX8_word_164 rfl (lv_at hl 1 rfl) ?_
                refine x_iload_n X dX8_word_165 rfl (lv_at hl 2 rfl) ?_
                refine x_iconst X dX8_word_166 ?_
                refine x_iconst X dX8_word_167 ?_
                refine x_cvv X hw [iV a1, iV 0, iV 0] [] (c_M_spells l G ad hI σ14 a1 0 0 hV) (cwV 3 X.2.2.2.2 gX8_word_X8_spells rfl rfl rfl hd_M_spells ⟨x_fr hR.1 rfl, x_fr hR.2 rfl⟩) lm0 cX8 rfl hl.1 rfl (Nat.le_of_ble_eq_true rfl) dX8_word_168 ⟨Nat.zero_le _, Nat.zero_le _⟩ (fun σ15 H locs hV hw => ?_)
                refine x_iinc X (k := 0) (x4_10 + 1) [(4, iV (x4_10 + 1)), (0, .ref (ad 0)), (1, iV a1)] dX8_word_171 hl rfl rfl (by decide) rfl (fun ls hl => ?_)
                refine x_goto X 120 dX8_word_174 (by decide) ?_
                exact hbk12 (x4_10 + 1) σ15 hV H locs ls hw hl
              refine x_if_ne X rfl 159 dX8_word_126 (by decide) (fun hc => ?_) (fun hc => ?_)
              · replace hV := hV.1 hc
                exact hJ159 σ11 H locs ls hV hw hl
              · replace hV := hV.2 hc
                refine x_aload_n X dX8_word_129 rfl (lv_at hl 1 rfl) ?_
                refine x_getr X hw lm0 cX8 13 (by decide) rfl n_M_word_4 n_M_word_5 dX8_word_130 ?_
                refine x_iconst X dX8_word_133 ?_
                refine x_iald X hw lm11 k32_1 rfl (show (0 : Int) ≤ 1 ∧ (1 : Int) < 16 by decide) dX8_word_134 ?_
                refine x_iconst X dX8_word_135 ?_
                refine x_icmp_ne X rfl k32_1 159 dX8_word_136 (by decide) (fun hc => ?_) (fun hc => ?_)
                · replace hV := hV.1 hc
                  exact hJ159 σ11 H locs ls hV hw hl
                · replace hV := hV.2 hc
                  refine x_aload_n X dX8_word_139 rfl (lv_at hl 1 rfl) ?_
                  refine x_getr X hw lm0 cX8 13 (by decide) rfl n_M_word_4 n_M_word_5 dX8_word_140 ?_
                  refine x_iconst X dX8_word_143 ?_
                  refine x_iald X hw lm11 k32_2 rfl (show (0 : Int) ≤ 2 ∧ (2 : Int) < 16 by decide) dX8_word_144 ?_
                  refine x_iconst X dX8_word_145 ?_
                  refine x_icmp_ne X rfl k32_2 159 dX8_word_146 (by decide) (fun hc => ?_) (fun hc => ?_)
                  · replace hV := hV.1 hc
                    exact hJ159 σ11 H locs ls hV hw hl
                  · replace hV := hV.2 hc
                    refine x_aload_n X dX8_word_149 rfl (lv_at hl 1 rfl) ?_
                    refine x_getr X hw lm0 cX8 13 (by decide) rfl n_M_word_4 n_M_word_5 dX8_word_150 ?_
                    refine x_iconst X dX8_word_153 ?_
                    refine x_iald X hw lm11 k32_3 rfl (show (0 : Int) ≤ 3 ∧ (3 : Int) < 16 by decide) dX8_word_154 ?_
                    refine x_iconst X dX8_word_155 ?_
                    refine x_icmp_eq X rfl k32_3 177 dX8_word_156 (by decide) (fun hc => ?_) (fun hc => ?_)
                    · replace hV := hV.1 hc
                      refine x_iload X dX8_word_177 (lv_at hl 0 rfl) ?_
                      exact hret x4_10 σ11 H locs ls 179 hV hw dX8_word_179
                    · replace hV := hV.2 hc
                      exact hJ159 σ11 H locs ls hV hw hl
            · replace hV := hV.2 hc
              refine x_iconst X dX8_word_92 ?_
              refine x_istore X [(4, iV 0), (3, iV x3_9), (0, .ref (ad 0)), (1, iV a1), (2, iV a2)] dX8_word_93 hl (by decide) rfl (fun ls hl => ?_)
              refine WL1.use (Gl := fun x4_16 σ17 => ∀ (H : Heap) (locs : List Loc) (ls : Array Slot), Wx vwCl G LM ad s H locs σ17 → lv_has ls 5 [(4, iV x4_16), (0, .ref (ad 0)), (2, iV a2)] → W p l e R s m args below meth c H locs 0 0 QQ (F0 m 95 ls [])) ?_ hV H locs ls hw (lv_sub hl [0, 2, 4] rfl)
              clear hV hw hl H locs ls
              intro bk18 x4_16 σ17 hbk18 hV H locs ls hw hl
              refine x_aload_n X dX8_word_95 rfl (lv_at hl 1 rfl) ?_
              refine x_getr X hw lm0 cX8 13 (by decide) rfl n_M_word_4 n_M_word_5 dX8_word_96 ?_
              refine x_iload X dX8_word_99 (lv_at hl 0 rfl) ?_
              obtain ⟨hi, hV⟩ := hV
              refine x_iald X hw lm11 rfl rfl hi dX8_word_101 ?_
              refine x_iload_n X dX8_word_102 rfl (lv_at hl 2 rfl) ?_
              refine x_iconst X dX8_word_103 ?_
              refine x_isub X dX8_word_104 ?_
              refine x_icmp_eq X rfl rfl 114 dX8_word_105 (by decide) (fun hc => ?_) (fun hc => ?_)
              · replace hV := hV.1 hc
                refine x_iload X dX8_word_114 (lv_at hl 0 rfl) ?_
                exact hret x4_16 σ17 H locs ls 116 hV hw dX8_word_116
              · replace hV := hV.2 hc
                refine x_iinc X (k := 0) (x4_16 + 1) [(4, iV (x4_16 + 1)), (0, .ref (ad 0)), (2, iV a2)] dX8_word_108 hl rfl rfl (by decide) rfl (fun ls hl => ?_)
                refine x_goto X 95 dX8_word_111 (by decide) ?_
                exact hbk18 (x4_16 + 1) σ17 hV H locs ls hw hl
          · replace hV := hV.2 hc
            refine x_aload_n X dX8_word_76 rfl (lv_at hl 1 rfl) ?_
            refine x_cvi X hw [] [] (c_M_layers l G ad hI σ8 hV) (cwV 0 X.2.2.2.2 gX8_word_X8_layers rfl rfl rfl hd_M_layers ⟨x_fr hR.1 rfl, x_fr hR.2 rfl⟩) lm0 cX8 rfl hl.1 rfl (Nat.le_of_ble_eq_true rfl) dX8_word_77 ⟨Nat.zero_le _, Nat.zero_le _⟩ (fun r20 σ19 H locs hV hw => ?_)
            refine x_istore X [(4, iV r20), (3, iV x3_9), (0, .ref (ad 0)), (1, iV a1), (2, iV a2)] dX8_word_80 hl (by decide) rfl (fun ls hl => ?_)
            refine x_aload_n X dX8_word_82 rfl (lv_at hl 2 rfl) ?_
            refine x_geti X hw lm0 cX8 21 (by decide) rfl n_M_word_4 n_M_word_6 dX8_word_83 ?_
            exact hret (σ19 0 21) σ19 H locs ls 86 hV hw dX8_word_86
        · replace hV := hV.2 hc
          refine x_iload_n X dX8_word_69 rfl (lv_at hl 0 rfl) ?_
          exact hret x3_9 σ8 H locs ls 70 hV hw dX8_word_70
      · replace hV := hV.2 hc
        refine x_aload_n X dX8_word_35 rfl (lv_at hl 0 rfl) ?_
        refine x_getr X hw lm0 cX8 0 (by decide) rfl n_M_word_4 n_M_word_7 dX8_word_36 ?_
        refine x_bipush X dX8_word_39 (by decide) ?_
        refine x_bipush X dX8_word_41 (by decide) ?_
        refine x_iload_n X dX8_word_43 rfl (lv_at hl 1 rfl) ?_
        refine x_imul X dX8_word_44 ?_
        refine x_iadd X dX8_word_45 ?_
        obtain ⟨hi, hV⟩ := hV
        refine x_iald X hw lm1 rfl rfl hi dX8_word_46 ?_
        exact hret (σ5 1 (i32 (86 + (9 * a1)))) σ5 H locs ls 47 hV hw dX8_word_47
    · replace hV := hV.2 hc
      refine x_aload_n X dX8_word_24 rfl (lv_at hl 0 rfl) ?_
      refine x_ldc X (-1000000001) n_M_word_1 (by decide) dX8_word_25 ?_
      refine x_cvi X hw [iV (-1000000001)] [] (c_M_errs l G ad hI σ5 (-1000000001) hV) (cwV 1 X.2.2.2.2 gX8_word_X8_errs rfl rfl rfl hd_M_errs ⟨x_fr hR.1 rfl, x_fr hR.2 rfl⟩) lm0 cX8 rfl hl.1 rfl (Nat.le_of_ble_eq_true rfl) dX8_word_27 ⟨Nat.zero_le _, Nat.zero_le _⟩ (fun r22 σ21 H locs hV hw => ?_)
      exact hret r22 σ21 H locs ls 30 hV hw dX8_word_30

theorem n_M_deep_0 : Cond.fieldLink RX8 120 "LacePillowModel" "many" "I" ∈ wsX8_deep := by decide +kernel
theorem n_M_deep_1 : ∀ w ∈ wsX80, w ∈ wsX8_deep := by decide +kernel
theorem n_M_deep_2 : Cond.fieldLink RX8 22 "LacePillowModel" "row" "[I" ∈ wsX8_deep := by decide +kernel
set_option maxHeartbeats 4000000 in
set_option maxRecDepth 100000 in
theorem c_M_deep (l : Launch) (G : GT) (ad : Nat → Nat) (hI : Inj LM ad) (σ : St) {Q : Int → St → Prop} (hV : V_M_deep σ Q) : Met l yX8_deep wsX8_deep (rmx 0 0) (Pq vwCl G LM ad σ [.ref (ad 0)]) (Qi vwCl G LM ad Q) 0 0 (Ax LM ad) := by
  unfold V_M_deep at hV
  refine x_meti (own := RX8) (by decide) rfl rfl (Nat.le_of_ble_eq_true rfl) hI ?_
  intro p e s m args below meth c R QQ X hR hret ls hl hw
  replace hl : lv_has ls 1 [(0, .ref (ad 0))] := hl
  obtain ⟨H, hH⟩ : ∃ z, z = s.heap := ⟨_, rfl⟩
  obtain ⟨locs, hlo⟩ : ∃ z : List Loc, z = [] := ⟨_, rfl⟩
  rw [← hH, ← hlo]
  replace hw : Wx vwCl G LM ad s H locs σ := by rw [hH, hlo]; exact hw
  clear hH hlo
  refine x_aload_n X dX8_deep_0 rfl (lv_at hl 0 rfl) ?_
  refine x_geti X hw lm0 cX8 5 (by decide) rfl n_M_deep_1 n_M_deep_0 dX8_deep_1 ?_
  refine x_if_ne X rfl 11 dX8_deep_4 (by decide) (fun hc => ?_) (fun hc => ?_)
  · replace hV := hV.1 hc
    refine x_aload_n X dX8_deep_11 rfl (lv_at hl 0 rfl) ?_
    refine x_getr X hw lm0 cX8 6 (by decide) rfl n_M_deep_1 n_M_deep_2 dX8_deep_12 ?_
    refine x_aload_n X dX8_deep_15 rfl (lv_at hl 0 rfl) ?_
    refine x_geti X hw lm0 cX8 5 (by decide) rfl n_M_deep_1 n_M_deep_0 dX8_deep_16 ?_
    refine x_iconst X dX8_deep_19 ?_
    refine x_isub X dX8_deep_20 ?_
    obtain ⟨hi, hV⟩ := hV
    refine x_iald X hw lm5 rfl rfl hi dX8_deep_21 ?_
    refine x_iconst X dX8_deep_22 ?_
    refine x_iadd X dX8_deep_23 ?_
    exact hret ((σ 5 (i32 ((σ 0 5) - 1))) + 1) σ H locs ls 24 hV hw dX8_deep_24
  · replace hV := hV.2 hc
    refine x_iconst X dX8_deep_7 ?_
    refine x_goto X 24 dX8_deep_8 (by decide) ?_
    exact hret 0 σ H locs ls 24 hV hw dX8_deep_24

theorem n_M_chain_0 : Cond.fieldLink RX8 120 "LacePillowModel" "many" "I" ∈ wsX8_chain := by decide +kernel
theorem n_M_chain_1 : ∀ w ∈ wsX80, w ∈ wsX8_chain := by decide +kernel
theorem n_M_chain_2 : Cond.fieldLink RX8 31 "LacePillowModel" "level" "[I" ∈ wsX8_chain := by decide +kernel
set_option maxHeartbeats 4000000 in
set_option maxRecDepth 100000 in
theorem c_M_chain (l : Launch) (G : GT) (ad : Nat → Nat) (hI : Inj LM ad) (σ : St) {Q : Int → St → Prop} (hV : V_M_chain σ Q) : Met l yX8_chain wsX8_chain (rmx 0 0) (Pq vwCl G LM ad σ [.ref (ad 0)]) (Qi vwCl G LM ad Q) 0 0 (Ax LM ad) := by
  unfold V_M_chain at hV
  refine x_meti (own := RX8) (by decide) rfl rfl (Nat.le_of_ble_eq_true rfl) hI ?_
  intro p e s m args below meth c R QQ X hR hret ls hl hw
  replace hl : lv_has ls 3 [(0, .ref (ad 0))] := hl
  obtain ⟨H, hH⟩ : ∃ z, z = s.heap := ⟨_, rfl⟩
  obtain ⟨locs, hlo⟩ : ∃ z : List Loc, z = [] := ⟨_, rfl⟩
  rw [← hH, ← hlo]
  replace hw : Wx vwCl G LM ad s H locs σ := by rw [hH, hlo]; exact hw
  clear hH hlo
  refine x_iconst X dX8_chain_0 ?_
  refine x_istore_n X [(1, iV 0), (0, .ref (ad 0))] dX8_chain_1 rfl hl (by decide) rfl (fun ls hl => ?_)
  refine x_iconst X dX8_chain_2 ?_
  refine x_istore_n X [(2, iV 0), (1, iV 0), (0, .ref (ad 0))] dX8_chain_3 rfl hl (by decide) rfl (fun ls hl => ?_)
  refine WL2.use (Gl := fun x2_1 x1_2 σ3 => ∀ (H : Heap) (locs : List Loc) (ls : Array Slot), Wx vwCl G LM ad s H locs σ3 → lv_has ls 3 [(2, iV x2_1), (1, iV x1_2), (0, .ref (ad 0))] → W p l e R s m args below meth c H locs 0 0 QQ (F0 m 4 ls [])) ?_ hV H locs ls hw hl
  clear hV hw hl H locs ls
  intro bk4 x2_1 x1_2 σ3 hbk4 hV H locs ls hw hl
  refine x_iload_n X dX8_chain_4 rfl (lv_at hl 0 rfl) ?_
  refine x_aload_n X dX8_chain_5 rfl (lv_at hl 2 rfl) ?_
  refine x_geti X hw lm0 cX8 5 (by decide) rfl n_M_chain_1 n_M_chain_0 dX8_chain_6 ?_
  refine x_icmp_ge X rfl rfl 41 dX8_chain_9 (by decide) (fun hc => ?_) (fun hc => ?_)
  · replace hV := hV.1 hc
    refine x_iload_n X dX8_chain_41 rfl (lv_at hl 1 rfl) ?_
    exact hret x1_2 σ3 H locs ls 42 hV hw dX8_chain_42
  · replace hV := hV.2 hc
    refine x_aload_n X dX8_chain_12 rfl (lv_at hl 2 rfl) ?_
    refine x_getr X hw lm0 cX8 9 (by decide) rfl n_M_chain_1 n_M_chain_2 dX8_chain_13 ?_
    refine x_iload_n X dX8_chain_16 rfl (lv_at hl 0 rfl) ?_
    obtain ⟨hi, hV⟩ := hV
    refine x_iald X hw lm8 rfl rfl hi dX8_chain_17 ?_
    refine x_iload_n X dX8_chain_18 rfl (lv_at hl 1 rfl) ?_
    refine x_icmp_lt X rfl rfl 33 dX8_chain_19 (by decide) (fun hc => ?_) (fun hc => ?_)
    · replace hV := hV.1 hc
      refine x_iload_n X dX8_chain_33 rfl (lv_at hl 1 rfl) ?_
      refine x_istore_n X [(1, iV x1_2), (2, iV x2_1), (0, .ref (ad 0))] dX8_chain_34 rfl hl (by decide) rfl (fun ls hl => ?_)
      refine x_iinc X (k := 1) (x2_1 + 1) [(2, iV (x2_1 + 1)), (1, iV x1_2), (0, .ref (ad 0))] dX8_chain_35 hl rfl rfl (by decide) rfl (fun ls hl => ?_)
      refine x_goto X 4 dX8_chain_38 (by decide) ?_
      exact hbk4 (x2_1 + 1) x1_2 σ3 hV H locs ls hw hl
    · replace hV := hV.2 hc
      refine x_aload_n X dX8_chain_22 rfl (lv_at hl 2 rfl) ?_
      refine x_getr X hw lm0 cX8 9 (by decide) rfl n_M_chain_1 n_M_chain_2 dX8_chain_23 ?_
      refine x_iload_n X dX8_chain_26 rfl (lv_at hl 0 rfl) ?_
      obtain ⟨hi, hV⟩ := hV
      refine x_iald X hw lm8 rfl rfl hi dX8_chain_27 ?_
      refine x_iconst X dX8_chain_28 ?_
      refine x_iadd X dX8_chain_29 ?_
      refine x_goto X 34 dX8_chain_30 (by decide) ?_
      refine x_bi (fun x1_5 ex1_5 => ?_)
      replace hV := hV x1_5 ex1_5
      clear ex1_5
      refine x_istore_n X [(1, iV x1_5), (2, iV x2_1), (0, .ref (ad 0))] dX8_chain_34 rfl hl (by decide) rfl (fun ls hl => ?_)
      refine x_iinc X (k := 1) (x2_1 + 1) [(2, iV (x2_1 + 1)), (1, iV x1_5), (0, .ref (ad 0))] dX8_chain_35 hl rfl rfl (by decide) rfl (fun ls hl => ?_)
      refine x_goto X 4 dX8_chain_38 (by decide) ?_
      exact hbk4 (x2_1 + 1) x1_5 σ3 hV H locs ls hw hl

theorem n_M_takes_0 : Cond.fieldLink RX8 120 "LacePillowModel" "many" "I" ∈ wsX8_takes := by decide +kernel
theorem n_M_takes_1 : ∀ w ∈ wsX80, w ∈ wsX8_takes := by decide +kernel
theorem n_M_takes_2 : Cond.fieldLink RX8 34 "LacePillowModel" "ahead" "[J" ∈ wsX8_takes := by decide +kernel
theorem n_M_takes_3 : Cond.fieldLink RX8 224 "LacePillowModel" "seen" "J" ∈ wsX8_takes := by decide +kernel
theorem n_M_takes_4 : Cond.fieldLink RX8 71 "LacePillowModel" "takenBy" "[I" ∈ wsX8_takes := by decide +kernel
set_option maxHeartbeats 4000000 in
set_option maxRecDepth 100000 in
theorem c_M_takes (l : Launch) (G : GT) (ad : Nat → Nat) (hI : Inj LM ad) : ∀ (n : Nat) (σ : St) (a1 : Int) {Q : Int → St → Prop} (hV : V_M_takes n σ a1 Q), Met l yX8_takes wsX8_takes (rmx (1 * n + 0) (22 * n + 0)) (Pq vwCl G LM ad σ [.ref (ad 0), iV a1]) (Qz vwCl G LM ad Q) 0 0 (Ax LM ad) := by
  intro n
  induction n with
  | zero => intro σ a1 Q hV; exact hV.elim
  | succ n ih =>
  intro σ a1 Q hV
  replace hV : B_M_takes (V_M_takes n) σ a1 Q := hV
  obtain ⟨rc, hrc⟩ : ∃ z, z = V_M_takes n := ⟨_, rfl⟩
  rw [← hrc] at hV ih
  clear hrc
  unfold B_M_takes at hV
  refine x_metz (own := RX8) (by decide) rfl rfl (Nat.le_of_ble_eq_true rfl) hI ?_
  intro p e s m args below meth c R QQ X hR hret ls hl hw
  replace hl : lv_has ls 3 [(0, .ref (ad 0)), (1, iV a1)] := hl
  obtain ⟨H, hH⟩ : ∃ z, z = s.heap := ⟨_, rfl⟩
  obtain ⟨locs, hlo⟩ : ∃ z : List Loc, z = [] := ⟨_, rfl⟩
  rw [← hH, ← hlo]
  replace hw : Wx vwCl G LM ad s H locs σ := by rw [hH, hlo]; exact hw
  clear hH hlo
  refine x_iconst X dX8_takes_0 ?_
  refine x_istore_n X [(2, iV 0), (0, .ref (ad 0)), (1, iV a1)] dX8_takes_1 rfl hl (by decide) rfl (fun ls hl => ?_)
  refine WL1.use (Gl := fun x2_1 σ2 => ∀ (H : Heap) (locs : List Loc) (ls : Array Slot), Wx vwCl G LM ad s H locs σ2 → lv_has ls 3 [(2, iV x2_1), (0, .ref (ad 0)), (1, iV a1)] → W p l e R s m args below meth c H locs 0 0 QQ (F0 m 2 ls [])) ?_ hV H locs ls hw hl
  clear hV hw hl H locs ls
  intro bk3 x2_1 σ2 hbk3 hV H locs ls hw hl
  refine x_iload_n X dX8_takes_2 rfl (lv_at hl 0 rfl) ?_
  refine x_aload_n X dX8_takes_3 rfl (lv_at hl 1 rfl) ?_
  refine x_geti X hw lm0 cX8 5 (by decide) rfl n_M_takes_1 n_M_takes_0 dX8_takes_4 ?_
  refine x_icmp_ge X rfl rfl 90 dX8_takes_7 (by decide) (fun hc => ?_) (fun hc => ?_)
  · replace hV := hV.1 hc
    refine x_iconst X dX8_takes_90 ?_
    exact hret 0 σ2 H locs ls 91 (by decide) hV hw dX8_takes_91
  · replace hV := hV.2 hc
    refine x_aload_n X dX8_takes_10 rfl (lv_at hl 1 rfl) ?_
    refine x_getr X hw lm0 cX8 10 (by decide) rfl n_M_takes_1 n_M_takes_2 dX8_takes_11 ?_
    refine x_iload_n X dX8_takes_14 rfl (lv_at hl 2 rfl) ?_
    obtain ⟨hi, hV⟩ := hV
    refine x_lald X hw lm9 rfl rfl hi dX8_takes_15 ?_
    refine x_iload_n X dX8_takes_16 rfl (lv_at hl 0 rfl) ?_
    refine x_lshr X dX8_takes_17 ?_
    refine x_lconst X 1 dX8_takes_18 rfl ?_
    refine x_land X dX8_takes_19 ?_
    refine x_lconst X 0 dX8_takes_20 rfl ?_
    refine x_lcmp_eq X rfl k64_0 84 dX8_takes_21 dX8_takes_22 (by decide) (fun hc => ?_) (fun hc => ?_)
    · replace hV := hV.1 hc
      refine x_iinc X (k := 0) (x2_1 + 1) [(2, iV (x2_1 + 1)), (0, .ref (ad 0)), (1, iV a1)] dX8_takes_84 hl rfl rfl (by decide) rfl (fun ls hl => ?_)
      refine x_goto X 2 dX8_takes_87 (by decide) ?_
      exact hbk3 (x2_1 + 1) σ2 hV H locs ls hw hl
    · replace hV := hV.2 hc
      refine x_aload_n X dX8_takes_25 rfl (lv_at hl 1 rfl) ?_
      refine x_getl X hw lm0 cX8 26 (by decide) rfl n_M_takes_1 n_M_takes_3 dX8_takes_26 ?_
      refine x_iload_n X dX8_takes_29 rfl (lv_at hl 0 rfl) ?_
      refine x_lshr X dX8_takes_30 ?_
      refine x_lconst X 1 dX8_takes_31 rfl ?_
      refine x_land X dX8_takes_32 ?_
      refine x_lconst X 1 dX8_takes_33 rfl ?_
      refine x_lcmp_ne X rfl k64_1 41 dX8_takes_34 dX8_takes_35 (by decide) (fun hc => ?_) (fun hc => ?_)
      · replace hV := hV.1 hc
        refine x_aload_n X dX8_takes_41 rfl (lv_at hl 1 rfl) ?_
        refine x_dup X dX8_takes_42 rfl ?_
        refine x_getl X hw lm0 cX8 26 (by decide) rfl n_M_takes_1 n_M_takes_3 dX8_takes_43 ?_
        refine x_lconst X 1 dX8_takes_46 rfl ?_
        refine x_iload_n X dX8_takes_47 rfl (lv_at hl 0 rfl) ?_
        refine x_lshl X dX8_takes_48 ?_
        refine x_lor X dX8_takes_49 ?_
        refine x_putl X hw lm0 cX8 26 (by decide) rfl n_M_takes_1 n_M_takes_3 tyX8 tyX8_ok nmX8 rfl rfl rfl dX8_takes_50 (fun H locs σ4 hs hw => ?_)
        replace hV := hV σ4 hs
        refine x_aload_n X dX8_takes_53 rfl (lv_at hl 1 rfl) ?_
        refine x_getr X hw lm0 cX8 25 (by decide) rfl n_M_takes_1 n_M_takes_4 dX8_takes_54 ?_
        refine x_iload_n X dX8_takes_57 rfl (lv_at hl 0 rfl) ?_
        obtain ⟨hi, hV⟩ := hV
        refine x_iald X hw lm21 rfl rfl hi dX8_takes_58 ?_
        refine x_if_lt X rfl 75 dX8_takes_59 (by decide) (fun hc => ?_) (fun hc => ?_)
        · replace hV := hV.1 hc
          refine x_aload_n X dX8_takes_75 rfl (lv_at hl 1 rfl) ?_
          refine x_getr X hw lm0 cX8 25 (by decide) rfl n_M_takes_1 n_M_takes_4 dX8_takes_76 ?_
          refine x_iload_n X dX8_takes_79 rfl (lv_at hl 0 rfl) ?_
          refine x_iload_n X dX8_takes_80 rfl (lv_at hl 2 rfl) ?_
          obtain ⟨hi, hV⟩ := hV
          refine x_iast X hw lm21 rfl rfl hi dX8_takes_81 (fun H locs σ5 hs hw => ?_)
          replace hV := hV σ5 hs
          refine x_iconst X dX8_takes_82 ?_
          exact hret 1 σ5 H locs ls 83 (by decide) hV hw dX8_takes_83
        · replace hV := hV.2 hc
          refine x_aload_n X dX8_takes_62 rfl (lv_at hl 1 rfl) ?_
          refine x_aload_n X dX8_takes_63 rfl (lv_at hl 1 rfl) ?_
          refine x_getr X hw lm0 cX8 25 (by decide) rfl n_M_takes_1 n_M_takes_4 dX8_takes_64 ?_
          refine x_iload_n X dX8_takes_67 rfl (lv_at hl 0 rfl) ?_
          obtain ⟨hi, hV⟩ := hV
          refine x_iald X hw lm21 rfl rfl hi dX8_takes_68 ?_
          refine x_cvz X hw [iV (σ4 21 (i32 x2_1))] [] (ih σ4 (σ4 21 (i32 x2_1)) hV) (cwV 1 X.2.2.2.2 gX8_takes_X8_takes rfl rfl rfl hd_M_takes ⟨by have := hR.1; simp only [rmx]; omega, by have := hR.2; simp only [rmx]; omega⟩) lm0 cX8 rfl hl.1 rfl (Nat.le_of_ble_eq_true rfl) dX8_takes_69 ⟨Nat.zero_le _, Nat.zero_le _⟩ (fun r7 σ6 H locs hr7 hV hw => ?_)
          refine x_if_eq X rfl 84 dX8_takes_72 (by decide) (fun hc => ?_) (fun hc => ?_)
          · replace hV := hV.1 hc
            refine x_iinc X (k := 0) (x2_1 + 1) [(2, iV (x2_1 + 1)), (0, .ref (ad 0)), (1, iV a1)] dX8_takes_84 hl rfl rfl (by decide) rfl (fun ls hl => ?_)
            refine x_goto X 2 dX8_takes_87 (by decide) ?_
            exact hbk3 (x2_1 + 1) σ6 hV H locs ls hw hl
          · replace hV := hV.2 hc
            refine x_aload_n X dX8_takes_75 rfl (lv_at hl 1 rfl) ?_
            refine x_getr X hw lm0 cX8 25 (by decide) rfl n_M_takes_1 n_M_takes_4 dX8_takes_76 ?_
            refine x_iload_n X dX8_takes_79 rfl (lv_at hl 0 rfl) ?_
            refine x_iload_n X dX8_takes_80 rfl (lv_at hl 2 rfl) ?_
            obtain ⟨hi, hV⟩ := hV
            refine x_iast X hw lm21 rfl rfl hi dX8_takes_81 (fun H locs σ8 hs hw => ?_)
            replace hV := hV σ8 hs
            refine x_iconst X dX8_takes_82 ?_
            exact hret 1 σ8 H locs ls 83 (by decide) hV hw dX8_takes_83
      · replace hV := hV.2 hc
        refine x_goto X 84 dX8_takes_38 (by decide) ?_
        refine x_iinc X (k := 0) (x2_1 + 1) [(2, iV (x2_1 + 1)), (0, .ref (ad 0)), (1, iV a1)] dX8_takes_84 hl rfl rfl (by decide) rfl (fun ls hl => ?_)
        refine x_goto X 2 dX8_takes_87 (by decide) ?_
        exact hbk3 (x2_1 + 1) σ2 hV H locs ls hw hl

theorem n_M_wide_0 : Cond.fieldLink RX8 120 "LacePillowModel" "many" "I" ∈ wsX8_wide := by decide +kernel
theorem n_M_wide_1 : ∀ w ∈ wsX80, w ∈ wsX8_wide := by decide +kernel
theorem n_M_wide_2 : Cond.fieldLink RX8 224 "LacePillowModel" "seen" "J" ∈ wsX8_wide := by decide +kernel
theorem n_M_wide_3 : Cond.fieldLink RX8 71 "LacePillowModel" "takenBy" "[I" ∈ wsX8_wide := by decide +kernel
set_option maxHeartbeats 4000000 in
set_option maxRecDepth 100000 in
theorem c_M_wide (l : Launch) (G : GT) (ad : Nat → Nat) (hI : Inj LM ad) (σ : St) {Q : Int → St → Prop} (hV : V_M_wide σ Q) : Met l yX8_wide wsX8_wide (rmx 51 1122) (Pq vwCl G LM ad σ [.ref (ad 0)]) (Qi vwCl G LM ad Q) 0 0 (Ax LM ad) := by
  unfold V_M_wide at hV
  refine x_meti (own := RX8) (by decide) rfl rfl (Nat.le_of_ble_eq_true rfl) hI ?_
  intro p e s m args below meth c R QQ X hR hret ls hl hw
  replace hl : lv_has ls 3 [(0, .ref (ad 0))] := hl
  obtain ⟨H, hH⟩ : ∃ z, z = s.heap := ⟨_, rfl⟩
  obtain ⟨locs, hlo⟩ : ∃ z : List Loc, z = [] := ⟨_, rfl⟩
  rw [← hH, ← hlo]
  replace hw : Wx vwCl G LM ad s H locs σ := by rw [hH, hlo]; exact hw
  clear hH hlo
  refine x_iconst X dX8_wide_0 ?_
  refine x_istore_n X [(1, iV 0), (0, .ref (ad 0))] dX8_wide_1 rfl hl (by decide) rfl (fun ls hl => ?_)
  refine WL1.use (Gl := fun x1_1 σ2 => ∀ (H : Heap) (locs : List Loc) (ls : Array Slot), Wx vwCl G LM ad s H locs σ2 → lv_has ls 3 [(1, iV x1_1), (0, .ref (ad 0))] → W p l e R s m args below meth c H locs 0 0 QQ (F0 m 2 ls [])) ?_ hV H locs ls hw hl
  clear hV hw hl H locs ls
  intro bk3 x1_1 σ2 hbk3 hV H locs ls hw hl
  refine x_iload_n X dX8_wide_2 rfl (lv_at hl 0 rfl) ?_
  refine x_aload_n X dX8_wide_3 rfl (lv_at hl 1 rfl) ?_
  refine x_geti X hw lm0 cX8 5 (by decide) rfl n_M_wide_1 n_M_wide_0 dX8_wide_4 ?_
  refine x_icmp_ge X rfl rfl 23 dX8_wide_7 (by decide) (fun hc => ?_) (fun hc => ?_)
  · replace hV := hV.1 hc
    refine x_aload_n X dX8_wide_23 rfl (lv_at hl 1 rfl) ?_
    refine x_geti X hw lm0 cX8 5 (by decide) rfl n_M_wide_1 n_M_wide_0 dX8_wide_24 ?_
    refine x_bi (fun x1_4 ex1_4 => ?_)
    replace hV := hV x1_4 ex1_4
    clear ex1_4
    refine x_istore_n X [(1, iV x1_4), (0, .ref (ad 0))] dX8_wide_27 rfl hl (by decide) rfl (fun ls hl => ?_)
    refine x_iconst X dX8_wide_28 ?_
    refine x_istore_n X [(2, iV 0), (1, iV x1_4), (0, .ref (ad 0))] dX8_wide_29 rfl hl (by decide) rfl (fun ls hl => ?_)
    refine WL2.use (Gl := fun x2_5 x1_6 σ7 => ∀ (H : Heap) (locs : List Loc) (ls : Array Slot), Wx vwCl G LM ad s H locs σ7 → lv_has ls 3 [(2, iV x2_5), (1, iV x1_6), (0, .ref (ad 0))] → W p l e R s m args below meth c H locs 0 0 QQ (F0 m 30 ls [])) ?_ hV H locs ls hw hl
    clear hV hw hl H locs ls
    intro bk8 x2_5 x1_6 σ7 hbk8 hV H locs ls hw hl
    refine x_iload_n X dX8_wide_30 rfl (lv_at hl 0 rfl) ?_
    refine x_aload_n X dX8_wide_31 rfl (lv_at hl 2 rfl) ?_
    refine x_geti X hw lm0 cX8 5 (by decide) rfl n_M_wide_1 n_M_wide_0 dX8_wide_32 ?_
    refine x_icmp_ge X rfl rfl 60 dX8_wide_35 (by decide) (fun hc => ?_) (fun hc => ?_)
    · replace hV := hV.1 hc
      refine x_iload_n X dX8_wide_60 rfl (lv_at hl 1 rfl) ?_
      exact hret x1_6 σ7 H locs ls 61 hV hw dX8_wide_61
    · replace hV := hV.2 hc
      refine x_aload_n X dX8_wide_38 rfl (lv_at hl 2 rfl) ?_
      refine x_lconst X 0 dX8_wide_39 rfl ?_
      refine x_putl X hw lm0 cX8 26 (by decide) rfl n_M_wide_1 n_M_wide_2 tyX8 tyX8_ok nmX8 rfl rfl rfl dX8_wide_40 (fun H locs σ9 hs hw => ?_)
      replace hV := hV σ9 hs
      refine x_aload_n X dX8_wide_43 rfl (lv_at hl 2 rfl) ?_
      refine x_iload_n X dX8_wide_44 rfl (lv_at hl 0 rfl) ?_
      obtain ⟨n, hn, hV⟩ := hV
      refine x_cvz X hw [iV x2_5] [] (c_M_takes l G ad hI n σ9 x2_5 hV) (cwV 1 X.2.2.2.2 gX8_wide_X8_takes rfl rfl rfl hd_M_takes ⟨by have := hR.1; simp only [rmx]; omega, by have := hR.2; simp only [rmx]; omega⟩) lm0 cX8 rfl hl.1 rfl (Nat.le_of_ble_eq_true rfl) dX8_wide_45 ⟨Nat.zero_le _, Nat.zero_le _⟩ (fun r11 σ10 H locs hr11 hV hw => ?_)
      refine x_if_eq X rfl 54 dX8_wide_48 (by decide) (fun hc => ?_) (fun hc => ?_)
      · replace hV := hV.1 hc
        refine x_iinc X (k := 0) (x2_5 + 1) [(2, iV (x2_5 + 1)), (1, iV x1_6), (0, .ref (ad 0))] dX8_wide_54 hl rfl rfl (by decide) rfl (fun ls hl => ?_)
        refine x_goto X 30 dX8_wide_57 (by decide) ?_
        exact hbk8 (x2_5 + 1) x1_6 σ10 hV H locs ls hw hl
      · replace hV := hV.2 hc
        refine x_iinc X (k := 1) (x1_6 + (-1)) [(1, iV (x1_6 + (-1))), (2, iV x2_5), (0, .ref (ad 0))] dX8_wide_51 hl rfl rfl (by decide) rfl (fun ls hl => ?_)
        refine x_iinc X (k := 1) (x2_5 + 1) [(2, iV (x2_5 + 1)), (1, iV (x1_6 + (-1))), (0, .ref (ad 0))] dX8_wide_54 hl rfl rfl (by decide) rfl (fun ls hl => ?_)
        refine x_goto X 30 dX8_wide_57 (by decide) ?_
        exact hbk8 (x2_5 + 1) (x1_6 + (-1)) σ10 hV H locs ls hw hl
  · replace hV := hV.2 hc
    refine x_aload_n X dX8_wide_10 rfl (lv_at hl 1 rfl) ?_
    refine x_getr X hw lm0 cX8 25 (by decide) rfl n_M_wide_1 n_M_wide_3 dX8_wide_11 ?_
    refine x_iload_n X dX8_wide_14 rfl (lv_at hl 0 rfl) ?_
    refine x_iconst X dX8_wide_15 ?_
    obtain ⟨hi, hV⟩ := hV
    refine x_iast X hw lm21 rfl rfl hi dX8_wide_16 (fun H locs σ12 hs hw => ?_)
    replace hV := hV σ12 hs
    refine x_iinc X (k := 0) (x1_1 + 1) [(1, iV (x1_1 + 1)), (0, .ref (ad 0))] dX8_wide_17 hl rfl rfl (by decide) rfl (fun ls hl => ?_)
    refine x_goto X 2 dX8_wide_20 (by decide) ?_
    exact hbk3 (x1_1 + 1) σ12 hV H locs ls hw hl

theorem n_M_leastFree_0 : Cond.fieldLink RX8 120 "LacePillowModel" "many" "I" ∈ wsX8_leastFree := by decide +kernel
theorem n_M_leastFree_1 : ∀ w ∈ wsX80, w ∈ wsX8_leastFree := by decide +kernel
set_option maxHeartbeats 4000000 in
set_option maxRecDepth 100000 in
theorem c_M_leastFree (l : Launch) (G : GT) (ad : Nat → Nat) (hI : Inj LM ad) (σ : St) {Q : Int → St → Prop} (hV : V_M_leastFree σ Q) : Met l yX8_leastFree wsX8_leastFree (rmx 2 46) (Pq vwCl G LM ad σ [.ref (ad 0)]) (Qi vwCl G LM ad Q) 0 0 (Ax LM ad) := by
  unfold V_M_leastFree at hV
  refine x_meti (own := RX8) (by decide) rfl rfl (Nat.le_of_ble_eq_true rfl) hI ?_
  intro p e s m args below meth c R QQ X hR hret ls hl hw
  replace hl : lv_has ls 2 [(0, .ref (ad 0))] := hl
  obtain ⟨H, hH⟩ : ∃ z, z = s.heap := ⟨_, rfl⟩
  obtain ⟨locs, hlo⟩ : ∃ z : List Loc, z = [] := ⟨_, rfl⟩
  rw [← hH, ← hlo]
  replace hw : Wx vwCl G LM ad s H locs σ := by rw [hH, hlo]; exact hw
  clear hH hlo
  refine x_iconst X dX8_leastFree_0 ?_
  refine x_istore_n X [(1, iV 0), (0, .ref (ad 0))] dX8_leastFree_1 rfl hl (by decide) rfl (fun ls hl => ?_)
  refine WL1.use (Gl := fun x1_1 σ2 => ∀ (H : Heap) (locs : List Loc) (ls : Array Slot), Wx vwCl G LM ad s H locs σ2 → lv_has ls 2 [(1, iV x1_1), (0, .ref (ad 0))] → W p l e R s m args below meth c H locs 0 0 QQ (F0 m 2 ls [])) ?_ hV H locs ls hw hl
  clear hV hw hl H locs ls
  intro bk3 x1_1 σ2 hbk3 hV H locs ls hw hl
  refine x_iload_n X dX8_leastFree_2 rfl (lv_at hl 0 rfl) ?_
  refine x_aload_n X dX8_leastFree_3 rfl (lv_at hl 1 rfl) ?_
  refine x_geti X hw lm0 cX8 5 (by decide) rfl n_M_leastFree_1 n_M_leastFree_0 dX8_leastFree_4 ?_
  refine x_icmp_ge X rfl rfl 26 dX8_leastFree_7 (by decide) (fun hc => ?_) (fun hc => ?_)
  · replace hV := hV.1 hc
    refine x_iconst X dX8_leastFree_26 ?_
    exact hret (-1) σ2 H locs ls 27 hV hw dX8_leastFree_27
  · replace hV := hV.2 hc
    refine x_aload_n X dX8_leastFree_10 rfl (lv_at hl 1 rfl) ?_
    refine x_iload_n X dX8_leastFree_11 rfl (lv_at hl 0 rfl) ?_
    refine x_cvz X hw [iV x1_1] [] (c_M_isFree l G ad hI σ2 x1_1 hV) (cwV 1 X.2.2.2.2 gX8_leastFree_X8_isFree rfl rfl rfl hd_M_isFree ⟨x_fr hR.1 rfl, x_fr hR.2 rfl⟩) lm0 cX8 rfl hl.1 rfl (Nat.le_of_ble_eq_true rfl) dX8_leastFree_12 ⟨Nat.zero_le _, Nat.zero_le _⟩ (fun r5 σ4 H locs hr5 hV hw => ?_)
    refine x_if_eq X rfl 20 dX8_leastFree_15 (by decide) (fun hc => ?_) (fun hc => ?_)
    · replace hV := hV.1 hc
      refine x_iinc X (k := 0) (x1_1 + 1) [(1, iV (x1_1 + 1)), (0, .ref (ad 0))] dX8_leastFree_20 hl rfl rfl (by decide) rfl (fun ls hl => ?_)
      refine x_goto X 2 dX8_leastFree_23 (by decide) ?_
      exact hbk3 (x1_1 + 1) σ4 hV H locs ls hw hl
    · replace hV := hV.2 hc
      refine x_iload_n X dX8_leastFree_18 rfl (lv_at hl 0 rfl) ?_
      exact hret x1_1 σ4 H locs ls 19 hV hw dX8_leastFree_19

theorem n_M_freeMany_0 : Cond.fieldLink RX8 120 "LacePillowModel" "many" "I" ∈ wsX8_freeMany := by decide +kernel
theorem n_M_freeMany_1 : ∀ w ∈ wsX80, w ∈ wsX8_freeMany := by decide +kernel
set_option maxHeartbeats 4000000 in
set_option maxRecDepth 100000 in
theorem c_M_freeMany (l : Launch) (G : GT) (ad : Nat → Nat) (hI : Inj LM ad) (σ : St) {Q : Int → St → Prop} (hV : V_M_freeMany σ Q) : Met l yX8_freeMany wsX8_freeMany (rmx 2 46) (Pq vwCl G LM ad σ [.ref (ad 0)]) (Qi vwCl G LM ad Q) 0 0 (Ax LM ad) := by
  unfold V_M_freeMany at hV
  refine x_meti (own := RX8) (by decide) rfl rfl (Nat.le_of_ble_eq_true rfl) hI ?_
  intro p e s m args below meth c R QQ X hR hret ls hl hw
  replace hl : lv_has ls 3 [(0, .ref (ad 0))] := hl
  obtain ⟨H, hH⟩ : ∃ z, z = s.heap := ⟨_, rfl⟩
  obtain ⟨locs, hlo⟩ : ∃ z : List Loc, z = [] := ⟨_, rfl⟩
  rw [← hH, ← hlo]
  replace hw : Wx vwCl G LM ad s H locs σ := by rw [hH, hlo]; exact hw
  clear hH hlo
  refine x_iconst X dX8_freeMany_0 ?_
  refine x_istore_n X [(1, iV 0), (0, .ref (ad 0))] dX8_freeMany_1 rfl hl (by decide) rfl (fun ls hl => ?_)
  refine x_iconst X dX8_freeMany_2 ?_
  refine x_istore_n X [(2, iV 0), (1, iV 0), (0, .ref (ad 0))] dX8_freeMany_3 rfl hl (by decide) rfl (fun ls hl => ?_)
  refine WL2.use (Gl := fun x2_1 x1_2 σ3 => ∀ (H : Heap) (locs : List Loc) (ls : Array Slot), Wx vwCl G LM ad s H locs σ3 → lv_has ls 3 [(2, iV x2_1), (1, iV x1_2), (0, .ref (ad 0))] → W p l e R s m args below meth c H locs 0 0 QQ (F0 m 4 ls [])) ?_ hV H locs ls hw hl
  clear hV hw hl H locs ls
  intro bk4 x2_1 x1_2 σ3 hbk4 hV H locs ls hw hl
  refine x_iload_n X dX8_freeMany_4 rfl (lv_at hl 0 rfl) ?_
  refine x_aload_n X dX8_freeMany_5 rfl (lv_at hl 2 rfl) ?_
  refine x_geti X hw lm0 cX8 5 (by decide) rfl n_M_freeMany_1 n_M_freeMany_0 dX8_freeMany_6 ?_
  refine x_icmp_ge X rfl rfl 34 dX8_freeMany_9 (by decide) (fun hc => ?_) (fun hc => ?_)
  · replace hV := hV.1 hc
    refine x_iload_n X dX8_freeMany_34 rfl (lv_at hl 1 rfl) ?_
    exact hret x1_2 σ3 H locs ls 35 hV hw dX8_freeMany_35
  · replace hV := hV.2 hc
    refine x_iload_n X dX8_freeMany_12 rfl (lv_at hl 1 rfl) ?_
    refine x_aload_n X dX8_freeMany_13 rfl (lv_at hl 2 rfl) ?_
    refine x_iload_n X dX8_freeMany_14 rfl (lv_at hl 0 rfl) ?_
    refine x_cvz X hw [iV x2_1] [iV x1_2] (c_M_isFree l G ad hI σ3 x2_1 hV) (cwV 1 X.2.2.2.2 gX8_freeMany_X8_isFree rfl rfl rfl hd_M_isFree ⟨x_fr hR.1 rfl, x_fr hR.2 rfl⟩) lm0 cX8 rfl hl.1 rfl (Nat.le_of_ble_eq_true rfl) dX8_freeMany_15 ⟨Nat.zero_le _, Nat.zero_le _⟩ (fun r6 σ5 H locs hr6 hV hw => ?_)
    refine x_if_eq X rfl 25 dX8_freeMany_18 (by decide) (fun hc => ?_) (fun hc => ?_)
    · replace hV := hV.1 hc
      refine x_iconst X dX8_freeMany_25 ?_
      refine x_iadd X dX8_freeMany_26 ?_
      refine x_bi (fun x1_7 ex1_7 => ?_)
      replace hV := hV x1_7 ex1_7
      clear ex1_7
      refine x_istore_n X [(1, iV x1_7), (2, iV x2_1), (0, .ref (ad 0))] dX8_freeMany_27 rfl hl (by decide) rfl (fun ls hl => ?_)
      refine x_iinc X (k := 1) (x2_1 + 1) [(2, iV (x2_1 + 1)), (1, iV x1_7), (0, .ref (ad 0))] dX8_freeMany_28 hl rfl rfl (by decide) rfl (fun ls hl => ?_)
      refine x_goto X 4 dX8_freeMany_31 (by decide) ?_
      exact hbk4 (x2_1 + 1) x1_7 σ5 hV H locs ls hw hl
    · replace hV := hV.2 hc
      refine x_iconst X dX8_freeMany_21 ?_
      refine x_goto X 26 dX8_freeMany_22 (by decide) ?_
      refine x_iadd X dX8_freeMany_26 ?_
      refine x_bi (fun x1_8 ex1_8 => ?_)
      replace hV := hV x1_8 ex1_8
      clear ex1_8
      refine x_istore_n X [(1, iV x1_8), (2, iV x2_1), (0, .ref (ad 0))] dX8_freeMany_27 rfl hl (by decide) rfl (fun ls hl => ?_)
      refine x_iinc X (k := 1) (x2_1 + 1) [(2, iV (x2_1 + 1)), (1, iV x1_8), (0, .ref (ad 0))] dX8_freeMany_28 hl rfl rfl (by decide) rfl (fun ls hl => ?_)
      refine x_goto X 4 dX8_freeMany_31 (by decide) ?_
      exact hbk4 (x2_1 + 1) x1_8 σ5 hV H locs ls hw hl

theorem n_M_stitches_0 : Cond.fieldLink RX8 120 "LacePillowModel" "many" "I" ∈ wsX8_stitches := by decide +kernel
theorem n_M_stitches_1 : ∀ w ∈ wsX80, w ∈ wsX8_stitches := by decide +kernel
theorem n_M_stitches_2 : Cond.fieldLink RX8 9 "LacePillowModel" "now" "[I" ∈ wsX8_stitches := by decide +kernel
theorem n_M_stitches_3 : Cond.constant RX8 249 (-1000000002) ∈ wsX8_stitches := by decide +kernel
theorem n_M_stitches_4 : Cond.constant RX8 149 (-1000000001) ∈ wsX8_stitches := by decide +kernel
set_option maxHeartbeats 4000000 in
set_option maxRecDepth 100000 in
theorem c_M_stitches (l : Launch) (G : GT) (ad : Nat → Nat) (hI : Inj LM ad) (σ : St) (a1 : Int) {Q : Int → St → Prop} (hV : V_M_stitches σ a1 Q) : Met l yX8_stitches wsX8_stitches (rmx 52 1144) (Pq vwCl G LM ad σ [.ref (ad 0), iV a1]) (Qi vwCl G LM ad Q) 0 0 (Ax LM ad) := by
  unfold V_M_stitches at hV
  refine x_meti (own := RX8) (by decide) rfl rfl (Nat.le_of_ble_eq_true rfl) hI ?_
  intro p e s m args below meth c R QQ X hR hret ls hl hw
  replace hl : lv_has ls 2 [(0, .ref (ad 0)), (1, iV a1)] := hl
  obtain ⟨H, hH⟩ : ∃ z, z = s.heap := ⟨_, rfl⟩
  obtain ⟨locs, hlo⟩ : ∃ z : List Loc, z = [] := ⟨_, rfl⟩
  rw [← hH, ← hlo]
  replace hw : Wx vwCl G LM ad s H locs σ := by rw [hH, hlo]; exact hw
  clear hH hlo
  refine x_iload_n X dX8_stitches_0 rfl (lv_at hl 1 rfl) ?_
  by_cases hc0 : i32 a1 = 0
  · replace hV := hV.1 hc0
    refine x_tabIn X 0 44 dX8_stitches_1 (hc0) (by decide) (by decide) rfl (by decide) ?_
    refine x_aload_n X dX8_stitches_44 rfl (lv_at hl 0 rfl) ?_
    refine x_geti X hw lm0 cX8 5 (by decide) rfl n_M_stitches_1 n_M_stitches_0 dX8_stitches_45 ?_
    exact hret (σ 0 5) σ H locs ls 48 hV hw dX8_stitches_48
  by_cases hc1 : i32 a1 = 1
  · replace hV := hV.2.1 hc1
    refine x_tabIn X 1 49 dX8_stitches_1 (hc1) (by decide) (by decide) rfl (by decide) ?_
    refine x_aload_n X dX8_stitches_49 rfl (lv_at hl 0 rfl) ?_
    refine x_cvi X hw [] [] (c_M_deep l G ad hI σ hV) (cwV 0 X.2.2.2.2 gX8_stitches_X8_deep rfl rfl rfl hd_M_deep ⟨x_fr hR.1 rfl, x_fr hR.2 rfl⟩) lm0 cX8 rfl hl.1 rfl (Nat.le_of_ble_eq_true rfl) dX8_stitches_50 ⟨Nat.zero_le _, Nat.zero_le _⟩ (fun r2 σ1 H locs hV hw => ?_)
    exact hret r2 σ1 H locs ls 53 hV hw dX8_stitches_53
  by_cases hc2 : i32 a1 = 2
  · replace hV := hV.2.2.1 hc2
    refine x_tabIn X 2 54 dX8_stitches_1 (hc2) (by decide) (by decide) rfl (by decide) ?_
    refine x_aload_n X dX8_stitches_54 rfl (lv_at hl 0 rfl) ?_
    refine x_cvi X hw [] [] (c_M_chain l G ad hI σ hV) (cwV 0 X.2.2.2.2 gX8_stitches_X8_chain rfl rfl rfl hd_M_chain ⟨x_fr hR.1 rfl, x_fr hR.2 rfl⟩) lm0 cX8 rfl hl.1 rfl (Nat.le_of_ble_eq_true rfl) dX8_stitches_55 ⟨Nat.zero_le _, Nat.zero_le _⟩ (fun r4 σ3 H locs hV hw => ?_)
    exact hret r4 σ3 H locs ls 58 hV hw dX8_stitches_58
  by_cases hc3 : i32 a1 = 3
  · replace hV := hV.2.2.2.1 hc3
    refine x_tabIn X 3 59 dX8_stitches_1 (hc3) (by decide) (by decide) rfl (by decide) ?_
    refine x_aload_n X dX8_stitches_59 rfl (lv_at hl 0 rfl) ?_
    refine x_cvi X hw [] [] (c_M_wide l G ad hI σ hV) (cwV 0 X.2.2.2.2 gX8_stitches_X8_wide rfl rfl rfl hd_M_wide ⟨x_fr hR.1 rfl, x_fr hR.2 rfl⟩) lm0 cX8 rfl hl.1 rfl (Nat.le_of_ble_eq_true rfl) dX8_stitches_60 ⟨Nat.zero_le _, Nat.zero_le _⟩ (fun r6 σ5 H locs hV hw => ?_)
    exact hret r6 σ5 H locs ls 63 hV hw dX8_stitches_63
  by_cases hc4 : i32 a1 = 4
  · replace hV := hV.2.2.2.2.1 hc4
    refine x_tabIn X 4 64 dX8_stitches_1 (hc4) (by decide) (by decide) rfl (by decide) ?_
    refine x_aload_n X dX8_stitches_64 rfl (lv_at hl 0 rfl) ?_
    refine x_cvi X hw [] [] (c_M_freeMany l G ad hI σ hV) (cwV 0 X.2.2.2.2 gX8_stitches_X8_freeMany rfl rfl rfl hd_M_freeMany ⟨x_fr hR.1 rfl, x_fr hR.2 rfl⟩) lm0 cX8 rfl hl.1 rfl (Nat.le_of_ble_eq_true rfl) dX8_stitches_65 ⟨Nat.zero_le _, Nat.zero_le _⟩ (fun r8 σ7 H locs hV hw => ?_)
    exact hret r8 σ7 H locs ls 68 hV hw dX8_stitches_68
  by_cases hc5 : i32 a1 = 5
  · replace hV := hV.2.2.2.2.2.1 hc5
    refine x_tabIn X 5 69 dX8_stitches_1 (hc5) (by decide) (by decide) rfl (by decide) ?_
    refine x_aload_n X dX8_stitches_69 rfl (lv_at hl 0 rfl) ?_
    refine x_getr X hw lm0 cX8 0 (by decide) rfl n_M_stitches_1 n_M_stitches_2 dX8_stitches_70 ?_
    refine x_iconst X dX8_stitches_73 ?_
    refine x_iald X hw lm1 k32_1 rfl (show (0 : Int) ≤ 1 ∧ (1 : Int) < 204 by decide) dX8_stitches_74 ?_
    exact hret (σ 1 1) σ H locs ls 75 hV hw dX8_stitches_75
  by_cases hc6 : i32 a1 = 6
  · replace hV := hV.2.2.2.2.2.2.1 hc6
    refine x_tabIn X 6 76 dX8_stitches_1 (hc6) (by decide) (by decide) rfl (by decide) ?_
    refine x_aload_n X dX8_stitches_76 rfl (lv_at hl 0 rfl) ?_
    refine x_cvi X hw [] [] (c_M_leastFree l G ad hI σ hV) (cwV 0 X.2.2.2.2 gX8_stitches_X8_leastFree rfl rfl rfl hd_M_leastFree ⟨x_fr hR.1 rfl, x_fr hR.2 rfl⟩) lm0 cX8 rfl hl.1 rfl (Nat.le_of_ble_eq_true rfl) dX8_stitches_77 ⟨Nat.zero_le _, Nat.zero_le _⟩ (fun r10 σ9 H locs hV hw => ?_)
    refine x_if_ge X rfl 92 dX8_stitches_80 (by decide) (fun hc => ?_) (fun hc => ?_)
    · replace hV := hV.1 hc
      refine x_aload_n X dX8_stitches_92 rfl (lv_at hl 0 rfl) ?_
      refine x_cvi X hw [] [] (c_M_leastFree l G ad hI σ9 hV) (cwV 0 X.2.2.2.2 gX8_stitches_X8_leastFree rfl rfl rfl hd_M_leastFree ⟨x_fr hR.1 rfl, x_fr hR.2 rfl⟩) lm0 cX8 rfl hl.1 rfl (Nat.le_of_ble_eq_true rfl) dX8_stitches_93 ⟨Nat.zero_le _, Nat.zero_le _⟩ (fun r12 σ11 H locs hV hw => ?_)
      exact hret r12 σ11 H locs ls 96 hV hw dX8_stitches_96
    · replace hV := hV.2 hc
      refine x_aload_n X dX8_stitches_83 rfl (lv_at hl 0 rfl) ?_
      refine x_ldc X (-1000000002) n_M_stitches_3 (by decide) dX8_stitches_84 ?_
      refine x_cvi X hw [iV (-1000000002)] [] (c_M_errs l G ad hI σ9 (-1000000002) hV) (cwV 1 X.2.2.2.2 gX8_stitches_X8_errs rfl rfl rfl hd_M_errs ⟨x_fr hR.1 rfl, x_fr hR.2 rfl⟩) lm0 cX8 rfl hl.1 rfl (Nat.le_of_ble_eq_true rfl) dX8_stitches_86 ⟨Nat.zero_le _, Nat.zero_le _⟩ (fun r14 σ13 H locs hV hw => ?_)
      refine x_goto X 96 dX8_stitches_89 (by decide) ?_
      exact hret r14 σ13 H locs ls 96 hV hw dX8_stitches_96
  have hc : i32 a1 < 0 ∨ 6 < i32 a1 := by omega
  replace hV := hV.2.2.2.2.2.2.2 hc
  refine x_tabOut X 97 dX8_stitches_1 hc (by decide) ?_
  refine x_aload_n X dX8_stitches_97 rfl (lv_at hl 0 rfl) ?_
  refine x_ldc X (-1000000001) n_M_stitches_4 (by decide) dX8_stitches_98 ?_
  refine x_cvi X hw [iV (-1000000001)] [] (c_M_errs l G ad hI σ (-1000000001) hV) (cwV 1 X.2.2.2.2 gX8_stitches_X8_errs rfl rfl rfl hd_M_errs ⟨x_fr hR.1 rfl, x_fr hR.2 rfl⟩) lm0 cX8 rfl hl.1 rfl (Nat.le_of_ble_eq_true rfl) dX8_stitches_100 ⟨Nat.zero_le _, Nat.zero_le _⟩ (fun r16 σ15 H locs hV hw => ?_)
  exact hret r16 σ15 H locs ls 103 hV hw dX8_stitches_103

theorem n_M_isStitch_0 : Cond.fieldLink RX8 120 "LacePillowModel" "many" "I" ∈ wsX8_isStitch := by decide +kernel
theorem n_M_isStitch_1 : ∀ w ∈ wsX80, w ∈ wsX8_isStitch := by decide +kernel
set_option maxHeartbeats 4000000 in
set_option maxRecDepth 100000 in
theorem c_M_isStitch (l : Launch) (G : GT) (ad : Nat → Nat) (hI : Inj LM ad) (σ : St) (a1 : Int) {Q : Int → St → Prop} (hV : V_M_isStitch σ a1 Q) : Met l yX8_isStitch wsX8_isStitch (rmx 1 25) (Pq vwCl G LM ad σ [.ref (ad 0), lV a1]) (Qz vwCl G LM ad Q) 0 0 (Ax LM ad) := by
  unfold V_M_isStitch at hV
  refine x_metz (own := RX8) (by decide) rfl rfl (Nat.le_of_ble_eq_true rfl) hI ?_
  intro p e s m args below meth c R QQ X hR hret ls hl hw
  replace hl : lv_has ls 3 [(0, .ref (ad 0)), (1, lV a1)] := hl
  obtain ⟨H, hH⟩ : ∃ z, z = s.heap := ⟨_, rfl⟩
  obtain ⟨locs, hlo⟩ : ∃ z : List Loc, z = [] := ⟨_, rfl⟩
  rw [← hH, ← hlo]
  replace hw : Wx vwCl G LM ad s H locs σ := by rw [hH, hlo]; exact hw
  clear hH hlo
  refine x_lload_n X dX8_isStitch_0 rfl (lv_at hl 1 rfl) ?_
  refine x_lconst X 0 dX8_isStitch_1 rfl ?_
  refine x_aload_n X dX8_isStitch_2 rfl (lv_at hl 0 rfl) ?_
  refine x_geti X hw lm0 cX8 5 (by decide) rfl n_M_isStitch_1 n_M_isStitch_0 dX8_isStitch_3 ?_
  refine x_iconst X dX8_isStitch_6 ?_
  refine x_isub X dX8_isStitch_7 ?_
  refine x_i2l X dX8_isStitch_8 ?_
  refine x_csz X hw [lV a1, lV 0, lV (i32 ((σ 0 5) - 1))] [] (c_M_in l G ad hI σ a1 0 (i32 ((σ 0 5) - 1)) hV) (va_cwS 3 X.2.2.2.2 gX8_isStitch_X8_in rfl rfl rfl hd_M_in ⟨x_fr hR.1 rfl, x_fr hR.2 rfl⟩) rfl hl.1 rfl (Nat.le_of_ble_eq_true rfl) dX8_isStitch_9 ⟨Nat.zero_le _, Nat.zero_le _⟩ (fun r2 σ1 H locs hr2 hV hw => ?_)
  exact hret r2 σ1 H locs ls 12 hr2 hV hw dX8_isStitch_12

theorem n_M_behind_0 : Cond.fieldLink RX8 120 "LacePillowModel" "many" "I" ∈ wsX8_behind := by decide +kernel
theorem n_M_behind_1 : ∀ w ∈ wsX80, w ∈ wsX8_behind := by decide +kernel
theorem n_M_behind_2 : Cond.fieldLink RX8 34 "LacePillowModel" "ahead" "[J" ∈ wsX8_behind := by decide +kernel
set_option maxHeartbeats 4000000 in
set_option maxRecDepth 100000 in
theorem c_M_behind (l : Launch) (G : GT) (ad : Nat → Nat) (hI : Inj LM ad) (σ : St) (a1 : Int) {Q : Int → St → Prop} (hV : V_M_behind σ a1 Q) : Met l yX8_behind wsX8_behind (rmx 0 0) (Pq vwCl G LM ad σ [.ref (ad 0), iV a1]) (Qi vwCl G LM ad Q) 0 0 (Ax LM ad) := by
  unfold V_M_behind at hV
  refine x_meti (own := RX8) (by decide) rfl rfl (Nat.le_of_ble_eq_true rfl) hI ?_
  intro p e s m args below meth c R QQ X hR hret ls hl hw
  replace hl : lv_has ls 4 [(0, .ref (ad 0)), (1, iV a1)] := hl
  obtain ⟨H, hH⟩ : ∃ z, z = s.heap := ⟨_, rfl⟩
  obtain ⟨locs, hlo⟩ : ∃ z : List Loc, z = [] := ⟨_, rfl⟩
  rw [← hH, ← hlo]
  replace hw : Wx vwCl G LM ad s H locs σ := by rw [hH, hlo]; exact hw
  clear hH hlo
  refine x_iconst X dX8_behind_0 ?_
  refine x_istore_n X [(2, iV 0), (0, .ref (ad 0)), (1, iV a1)] dX8_behind_1 rfl hl (by decide) rfl (fun ls hl => ?_)
  refine x_iconst X dX8_behind_2 ?_
  refine x_istore_n X [(3, iV 0), (2, iV 0), (0, .ref (ad 0)), (1, iV a1)] dX8_behind_3 rfl hl (by decide) rfl (fun ls hl => ?_)
  refine WL2.use (Gl := fun x3_1 x2_2 σ3 => ∀ (H : Heap) (locs : List Loc) (ls : Array Slot), Wx vwCl G LM ad s H locs σ3 → lv_has ls 4 [(3, iV x3_1), (2, iV x2_2), (0, .ref (ad 0)), (1, iV a1)] → W p l e R s m args below meth c H locs 0 0 QQ (F0 m 4 ls [])) ?_ hV H locs ls hw hl
  clear hV hw hl H locs ls
  intro bk4 x3_1 x2_2 σ3 hbk4 hV H locs ls hw hl
  refine x_iload_n X dX8_behind_4 rfl (lv_at hl 0 rfl) ?_
  refine x_aload_n X dX8_behind_5 rfl (lv_at hl 2 rfl) ?_
  refine x_geti X hw lm0 cX8 5 (by decide) rfl n_M_behind_1 n_M_behind_0 dX8_behind_6 ?_
  refine x_icmp_ge X rfl rfl 32 dX8_behind_9 (by decide) (fun hc => ?_) (fun hc => ?_)
  · replace hV := hV.1 hc
    refine x_iload_n X dX8_behind_32 rfl (lv_at hl 1 rfl) ?_
    exact hret x2_2 σ3 H locs ls 33 hV hw dX8_behind_33
  · replace hV := hV.2 hc
    refine x_iload_n X dX8_behind_12 rfl (lv_at hl 1 rfl) ?_
    refine x_aload_n X dX8_behind_13 rfl (lv_at hl 2 rfl) ?_
    refine x_getr X hw lm0 cX8 10 (by decide) rfl n_M_behind_1 n_M_behind_2 dX8_behind_14 ?_
    refine x_iload_n X dX8_behind_17 rfl (lv_at hl 0 rfl) ?_
    obtain ⟨hi, hV⟩ := hV
    refine x_lald X hw lm9 rfl rfl hi dX8_behind_18 ?_
    refine x_iload_n X dX8_behind_19 rfl (lv_at hl 3 rfl) ?_
    refine x_lshr X dX8_behind_20 ?_
    refine x_lconst X 1 dX8_behind_21 rfl ?_
    refine x_land X dX8_behind_22 ?_
    refine x_l2i X dX8_behind_23 ?_
    refine x_iadd X dX8_behind_24 ?_
    refine x_bi (fun x2_5 ex2_5 => ?_)
    replace hV := hV x2_5 ex2_5
    clear ex2_5
    refine x_istore_n X [(2, iV x2_5), (3, iV x3_1), (0, .ref (ad 0)), (1, iV a1)] dX8_behind_25 rfl hl (by decide) rfl (fun ls hl => ?_)
    refine x_iinc X (k := 1) (x3_1 + 1) [(3, iV (x3_1 + 1)), (2, iV x2_5), (0, .ref (ad 0)), (1, iV a1)] dX8_behind_26 hl rfl rfl (by decide) rfl (fun ls hl => ?_)
    refine x_goto X 4 dX8_behind_29 (by decide) ?_
    exact hbk4 (x3_1 + 1) x2_5 σ3 hV H locs ls hw hl

theorem n_M_stitch_0 : Cond.fieldLink RX8 22 "LacePillowModel" "row" "[I" ∈ wsX8_stitch := by decide +kernel
theorem n_M_stitch_1 : ∀ w ∈ wsX80, w ∈ wsX8_stitch := by decide +kernel
theorem n_M_stitch_2 : Cond.fieldLink RX8 25 "LacePillowModel" "gap" "[I" ∈ wsX8_stitch := by decide +kernel
theorem n_M_stitch_3 : Cond.fieldLink RX8 28 "LacePillowModel" "kind" "[I" ∈ wsX8_stitch := by decide +kernel
theorem n_M_stitch_4 : Cond.fieldLink RX8 31 "LacePillowModel" "level" "[I" ∈ wsX8_stitch := by decide +kernel
theorem n_M_stitch_5 : Cond.fieldLink RX8 34 "LacePillowModel" "ahead" "[J" ∈ wsX8_stitch := by decide +kernel
theorem n_M_stitch_6 : Cond.constant RX8 149 (-1000000001) ∈ wsX8_stitch := by decide +kernel
set_option maxHeartbeats 4000000 in
set_option maxRecDepth 100000 in
theorem c_M_stitch (l : Launch) (G : GT) (ad : Nat → Nat) (hI : Inj LM ad) (σ : St) (a1 : Int) (a2 : Int) {Q : Int → St → Prop} (hV : V_M_stitch σ a1 a2 Q) : Met l yX8_stitch wsX8_stitch (rmx 2 47) (Pq vwCl G LM ad σ [.ref (ad 0), iV a1, iV a2]) (Qi vwCl G LM ad Q) 0 0 (Ax LM ad) := by
  unfold V_M_stitch at hV
  refine x_meti (own := RX8) (by decide) rfl rfl (Nat.le_of_ble_eq_true rfl) hI ?_
  intro p e s m args below meth c R QQ X hR hret ls hl hw
  replace hl : lv_has ls 3 [(0, .ref (ad 0)), (1, iV a1), (2, iV a2)] := hl
  obtain ⟨H, hH⟩ : ∃ z, z = s.heap := ⟨_, rfl⟩
  obtain ⟨locs, hlo⟩ : ∃ z : List Loc, z = [] := ⟨_, rfl⟩
  rw [← hH, ← hlo]
  replace hw : Wx vwCl G LM ad s H locs σ := by rw [hH, hlo]; exact hw
  clear hH hlo
  refine x_aload_n X dX8_stitch_0 rfl (lv_at hl 0 rfl) ?_
  refine x_iload_n X dX8_stitch_1 rfl (lv_at hl 1 rfl) ?_
  refine x_i2l X dX8_stitch_2 ?_
  refine x_cvz X hw [lV (i32 a1)] [] (c_M_isStitch l G ad hI σ (i32 a1) hV) (cwV 1 X.2.2.2.2 gX8_stitch_X8_isStitch rfl rfl rfl hd_M_isStitch ⟨x_fr hR.1 rfl, x_fr hR.2 rfl⟩) lm0 cX8 rfl hl.1 rfl (Nat.le_of_ble_eq_true rfl) dX8_stitch_3 ⟨Nat.zero_le _, Nat.zero_le _⟩ (fun r2 σ1 H locs hr2 hV hw => ?_)
  refine x_if_ne X rfl 16 dX8_stitch_6 (by decide) (fun hc => ?_) (fun hc => ?_)
  · replace hV := hV.1 hc
    refine x_iload_n X dX8_stitch_16 rfl (lv_at hl 2 rfl) ?_
    by_cases hc0 : i32 a2 = 0
    · replace hV := hV.1 hc0
      refine x_tabIn X 0 64 dX8_stitch_17 (hc0) (by decide) (by decide) rfl (by decide) ?_
      refine x_aload_n X dX8_stitch_64 rfl (lv_at hl 0 rfl) ?_
      refine x_getr X hw lm0 cX8 6 (by decide) rfl n_M_stitch_1 n_M_stitch_0 dX8_stitch_65 ?_
      refine x_iload_n X dX8_stitch_68 rfl (lv_at hl 1 rfl) ?_
      obtain ⟨hi, hV⟩ := hV
      refine x_iald X hw lm5 rfl rfl hi dX8_stitch_69 ?_
      exact hret (σ1 5 (i32 a1)) σ1 H locs ls 70 hV hw dX8_stitch_70
    by_cases hc1 : i32 a2 = 1
    · replace hV := hV.2.1 hc1
      refine x_tabIn X 1 71 dX8_stitch_17 (hc1) (by decide) (by decide) rfl (by decide) ?_
      refine x_aload_n X dX8_stitch_71 rfl (lv_at hl 0 rfl) ?_
      refine x_getr X hw lm0 cX8 7 (by decide) rfl n_M_stitch_1 n_M_stitch_2 dX8_stitch_72 ?_
      refine x_iload_n X dX8_stitch_75 rfl (lv_at hl 1 rfl) ?_
      obtain ⟨hi, hV⟩ := hV
      refine x_iald X hw lm6 rfl rfl hi dX8_stitch_76 ?_
      exact hret (σ1 6 (i32 a1)) σ1 H locs ls 77 hV hw dX8_stitch_77
    by_cases hc2 : i32 a2 = 2
    · replace hV := hV.2.2.1 hc2
      refine x_tabIn X 2 78 dX8_stitch_17 (hc2) (by decide) (by decide) rfl (by decide) ?_
      refine x_aload_n X dX8_stitch_78 rfl (lv_at hl 0 rfl) ?_
      refine x_getr X hw lm0 cX8 8 (by decide) rfl n_M_stitch_1 n_M_stitch_3 dX8_stitch_79 ?_
      refine x_iload_n X dX8_stitch_82 rfl (lv_at hl 1 rfl) ?_
      obtain ⟨hi, hV⟩ := hV
      refine x_iald X hw lm7 rfl rfl hi dX8_stitch_83 ?_
      exact hret (σ1 7 (i32 a1)) σ1 H locs ls 84 hV hw dX8_stitch_84
    by_cases hc3 : i32 a2 = 3
    · replace hV := hV.2.2.2.1 hc3
      refine x_tabIn X 3 85 dX8_stitch_17 (hc3) (by decide) (by decide) rfl (by decide) ?_
      refine x_aload_n X dX8_stitch_85 rfl (lv_at hl 0 rfl) ?_
      refine x_getr X hw lm0 cX8 9 (by decide) rfl n_M_stitch_1 n_M_stitch_4 dX8_stitch_86 ?_
      refine x_iload_n X dX8_stitch_89 rfl (lv_at hl 1 rfl) ?_
      obtain ⟨hi, hV⟩ := hV
      refine x_iald X hw lm8 rfl rfl hi dX8_stitch_90 ?_
      exact hret (σ1 8 (i32 a1)) σ1 H locs ls 91 hV hw dX8_stitch_91
    by_cases hc4 : i32 a2 = 4
    · replace hV := hV.2.2.2.2.1 hc4
      refine x_tabIn X 4 92 dX8_stitch_17 (hc4) (by decide) (by decide) rfl (by decide) ?_
      refine x_aload_n X dX8_stitch_92 rfl (lv_at hl 0 rfl) ?_
      refine x_getr X hw lm0 cX8 10 (by decide) rfl n_M_stitch_1 n_M_stitch_5 dX8_stitch_93 ?_
      refine x_iload_n X dX8_stitch_96 rfl (lv_at hl 1 rfl) ?_
      obtain ⟨hi, hV⟩ := hV
      refine x_lald X hw lm9 rfl rfl hi dX8_stitch_97 ?_
      refine x_csi X hw [lV (σ1 9 (i32 a1))] [] (c_M_bits l G ad hI σ1 (σ1 9 (i32 a1)) hV) (va_cwS 1 X.2.2.2.2 gX8_stitch_X8_bits rfl rfl rfl hd_M_bits ⟨x_fr hR.1 rfl, x_fr hR.2 rfl⟩) rfl hl.1 rfl (Nat.le_of_ble_eq_true rfl) dX8_stitch_98 ⟨Nat.zero_le _, Nat.zero_le _⟩ (fun r4 σ3 H locs hV hw => ?_)
      exact hret r4 σ3 H locs ls 101 hV hw dX8_stitch_101
    by_cases hc5 : i32 a2 = 5
    · replace hV := hV.2.2.2.2.2.1 hc5
      refine x_tabIn X 5 102 dX8_stitch_17 (hc5) (by decide) (by decide) rfl (by decide) ?_
      refine x_aload_n X dX8_stitch_102 rfl (lv_at hl 0 rfl) ?_
      refine x_iload_n X dX8_stitch_103 rfl (lv_at hl 1 rfl) ?_
      refine x_cvi X hw [iV a1] [] (c_M_behind l G ad hI σ1 a1 hV) (cwV 1 X.2.2.2.2 gX8_stitch_X8_behind rfl rfl rfl hd_M_behind ⟨x_fr hR.1 rfl, x_fr hR.2 rfl⟩) lm0 cX8 rfl hl.1 rfl (Nat.le_of_ble_eq_true rfl) dX8_stitch_104 ⟨Nat.zero_le _, Nat.zero_le _⟩ (fun r6 σ5 H locs hV hw => ?_)
      exact hret r6 σ5 H locs ls 107 hV hw dX8_stitch_107
    by_cases hc6 : i32 a2 = 6
    · replace hV := hV.2.2.2.2.2.2.1 hc6
      refine x_tabIn X 6 108 dX8_stitch_17 (hc6) (by decide) (by decide) rfl (by decide) ?_
      refine x_aload_n X dX8_stitch_108 rfl (lv_at hl 0 rfl) ?_
      refine x_cvl X hw [] [] (c_M_workedSet l G ad hI σ1 hV) (cwV 0 X.2.2.2.2 gX8_stitch_X8_workedSet rfl rfl rfl hd_M_workedSet ⟨x_fr hR.1 rfl, x_fr hR.2 rfl⟩) lm0 cX8 rfl hl.1 rfl (Nat.le_of_ble_eq_true rfl) dX8_stitch_109 ⟨Nat.zero_le _, Nat.zero_le _⟩ (fun r8 σ7 H locs hV hw => ?_)
      refine x_iload_n X dX8_stitch_112 rfl (lv_at hl 1 rfl) ?_
      refine x_lshr X dX8_stitch_113 ?_
      refine x_lconst X 1 dX8_stitch_114 rfl ?_
      refine x_land X dX8_stitch_115 ?_
      refine x_l2i X dX8_stitch_116 ?_
      exact hret (lan (lsr r8 a1) 1) σ7 H locs ls 117 hV hw dX8_stitch_117
    by_cases hc7 : i32 a2 = 7
    · replace hV := hV.2.2.2.2.2.2.2.1 hc7
      refine x_tabIn X 7 118 dX8_stitch_17 (hc7) (by decide) (by decide) rfl (by decide) ?_
      refine x_aload_n X dX8_stitch_118 rfl (lv_at hl 0 rfl) ?_
      refine x_iload_n X dX8_stitch_119 rfl (lv_at hl 1 rfl) ?_
      refine x_cvz X hw [iV a1] [] (c_M_isFree l G ad hI σ1 a1 hV) (cwV 1 X.2.2.2.2 gX8_stitch_X8_isFree rfl rfl rfl hd_M_isFree ⟨x_fr hR.1 rfl, x_fr hR.2 rfl⟩) lm0 cX8 rfl hl.1 rfl (Nat.le_of_ble_eq_true rfl) dX8_stitch_120 ⟨Nat.zero_le _, Nat.zero_le _⟩ (fun r10 σ9 H locs hr10 hV hw => ?_)
      refine x_if_eq X rfl 130 dX8_stitch_123 (by decide) (fun hc => ?_) (fun hc => ?_)
      · replace hV := hV.1 hc
        refine x_iconst X dX8_stitch_130 ?_
        exact hret 0 σ9 H locs ls 131 hV hw dX8_stitch_131
      · replace hV := hV.2 hc
        refine x_iconst X dX8_stitch_126 ?_
        refine x_goto X 131 dX8_stitch_127 (by decide) ?_
        exact hret 1 σ9 H locs ls 131 hV hw dX8_stitch_131
    have hc : i32 a2 < 0 ∨ 7 < i32 a2 := by omega
    replace hV := hV.2.2.2.2.2.2.2.2 hc
    refine x_tabOut X 132 dX8_stitch_17 hc (by decide) ?_
    refine x_aload_n X dX8_stitch_132 rfl (lv_at hl 0 rfl) ?_
    refine x_ldc X (-1000000001) n_M_stitch_6 (by decide) dX8_stitch_133 ?_
    refine x_cvi X hw [iV (-1000000001)] [] (c_M_errs l G ad hI σ1 (-1000000001) hV) (cwV 1 X.2.2.2.2 gX8_stitch_X8_errs rfl rfl rfl hd_M_errs ⟨x_fr hR.1 rfl, x_fr hR.2 rfl⟩) lm0 cX8 rfl hl.1 rfl (Nat.le_of_ble_eq_true rfl) dX8_stitch_135 ⟨Nat.zero_le _, Nat.zero_le _⟩ (fun r12 σ11 H locs hV hw => ?_)
    exact hret r12 σ11 H locs ls 138 hV hw dX8_stitch_138
  · replace hV := hV.2 hc
    refine x_aload_n X dX8_stitch_9 rfl (lv_at hl 0 rfl) ?_
    refine x_ldc X (-1000000001) n_M_stitch_6 (by decide) dX8_stitch_10 ?_
    refine x_cvi X hw [iV (-1000000001)] [] (c_M_errs l G ad hI σ1 (-1000000001) hV) (cwV 1 X.2.2.2.2 gX8_stitch_X8_errs rfl rfl rfl hd_M_errs ⟨x_fr hR.1 rfl, x_fr hR.2 rfl⟩) lm0 cX8 rfl hl.1 rfl (Nat.le_of_ble_eq_true rfl) dX8_stitch_12 ⟨Nat.zero_le _, Nat.zero_le _⟩ (fun r14 σ13 H locs hV hw => ?_)
    exact hret r14 σ13 H locs ls 15 hV hw dX8_stitch_15

theorem n_M_ahead_0 : Cond.constant RX8 149 (-1000000001) ∈ wsX8_ahead := by decide +kernel
theorem n_M_ahead_1 : Cond.fieldLink RX8 34 "LacePillowModel" "ahead" "[J" ∈ wsX8_ahead := by decide +kernel
theorem n_M_ahead_2 : ∀ w ∈ wsX80, w ∈ wsX8_ahead := by decide +kernel
set_option maxHeartbeats 4000000 in
set_option maxRecDepth 100000 in
theorem c_M_ahead (l : Launch) (G : GT) (ad : Nat → Nat) (hI : Inj LM ad) (σ : St) (a1 : Int) (a2 : Int) {Q : Int → St → Prop} (hV : V_M_ahead σ a1 a2 Q) : Met l yX8_ahead wsX8_ahead (rmx 2 47) (Pq vwCl G LM ad σ [.ref (ad 0), iV a1, iV a2]) (Qi vwCl G LM ad Q) 0 0 (Ax LM ad) := by
  unfold V_M_ahead at hV
  refine x_meti (own := RX8) (by decide) rfl rfl (Nat.le_of_ble_eq_true rfl) hI ?_
  intro p e s m args below meth c R QQ X hR hret ls hl hw
  replace hl : lv_has ls 3 [(0, .ref (ad 0)), (1, iV a1), (2, iV a2)] := hl
  obtain ⟨H, hH⟩ : ∃ z, z = s.heap := ⟨_, rfl⟩
  obtain ⟨locs, hlo⟩ : ∃ z : List Loc, z = [] := ⟨_, rfl⟩
  rw [← hH, ← hlo]
  replace hw : Wx vwCl G LM ad s H locs σ := by rw [hH, hlo]; exact hw
  clear hH hlo
  refine x_aload_n X dX8_ahead_0 rfl (lv_at hl 0 rfl) ?_
  refine x_iload_n X dX8_ahead_1 rfl (lv_at hl 1 rfl) ?_
  refine x_i2l X dX8_ahead_2 ?_
  refine x_cvz X hw [lV (i32 a1)] [] (c_M_isStitch l G ad hI σ (i32 a1) hV) (cwV 1 X.2.2.2.2 gX8_ahead_X8_isStitch rfl rfl rfl hd_M_isStitch ⟨x_fr hR.1 rfl, x_fr hR.2 rfl⟩) lm0 cX8 rfl hl.1 rfl (Nat.le_of_ble_eq_true rfl) dX8_ahead_3 ⟨Nat.zero_le _, Nat.zero_le _⟩ (fun r2 σ1 H locs hr2 hV hw => ?_)
  refine x_if_eq X rfl 32 dX8_ahead_6 (by decide) (fun hc => ?_) (fun hc => ?_)
  · replace hV := hV.1 hc
    refine x_aload_n X dX8_ahead_32 rfl (lv_at hl 0 rfl) ?_
    refine x_ldc X (-1000000001) n_M_ahead_0 (by decide) dX8_ahead_33 ?_
    refine x_cvi X hw [iV (-1000000001)] [] (c_M_errs l G ad hI σ1 (-1000000001) hV) (cwV 1 X.2.2.2.2 gX8_ahead_X8_errs rfl rfl rfl hd_M_errs ⟨x_fr hR.1 rfl, x_fr hR.2 rfl⟩) lm0 cX8 rfl hl.1 rfl (Nat.le_of_ble_eq_true rfl) dX8_ahead_35 ⟨Nat.zero_le _, Nat.zero_le _⟩ (fun r4 σ3 H locs hV hw => ?_)
    exact hret r4 σ3 H locs ls 38 hV hw dX8_ahead_38
  · replace hV := hV.2 hc
    refine x_aload_n X dX8_ahead_9 rfl (lv_at hl 0 rfl) ?_
    refine x_iload_n X dX8_ahead_10 rfl (lv_at hl 2 rfl) ?_
    refine x_i2l X dX8_ahead_11 ?_
    refine x_cvz X hw [lV (i32 a2)] [] (c_M_isStitch l G ad hI σ1 (i32 a2) hV) (cwV 1 X.2.2.2.2 gX8_ahead_X8_isStitch rfl rfl rfl hd_M_isStitch ⟨x_fr hR.1 rfl, x_fr hR.2 rfl⟩) lm0 cX8 rfl hl.1 rfl (Nat.le_of_ble_eq_true rfl) dX8_ahead_12 ⟨Nat.zero_le _, Nat.zero_le _⟩ (fun r6 σ5 H locs hr6 hV hw => ?_)
    refine x_if_eq X rfl 32 dX8_ahead_15 (by decide) (fun hc => ?_) (fun hc => ?_)
    · replace hV := hV.1 hc
      refine x_aload_n X dX8_ahead_32 rfl (lv_at hl 0 rfl) ?_
      refine x_ldc X (-1000000001) n_M_ahead_0 (by decide) dX8_ahead_33 ?_
      refine x_cvi X hw [iV (-1000000001)] [] (c_M_errs l G ad hI σ5 (-1000000001) hV) (cwV 1 X.2.2.2.2 gX8_ahead_X8_errs rfl rfl rfl hd_M_errs ⟨x_fr hR.1 rfl, x_fr hR.2 rfl⟩) lm0 cX8 rfl hl.1 rfl (Nat.le_of_ble_eq_true rfl) dX8_ahead_35 ⟨Nat.zero_le _, Nat.zero_le _⟩ (fun r8 σ7 H locs hV hw => ?_)
      exact hret r8 σ7 H locs ls 38 hV hw dX8_ahead_38
    · replace hV := hV.2 hc
      refine x_aload_n X dX8_ahead_18 rfl (lv_at hl 0 rfl) ?_
      refine x_getr X hw lm0 cX8 10 (by decide) rfl n_M_ahead_2 n_M_ahead_1 dX8_ahead_19 ?_
      refine x_iload_n X dX8_ahead_22 rfl (lv_at hl 2 rfl) ?_
      obtain ⟨hi, hV⟩ := hV
      refine x_lald X hw lm9 rfl rfl hi dX8_ahead_23 ?_
      refine x_iload_n X dX8_ahead_24 rfl (lv_at hl 1 rfl) ?_
      refine x_lshr X dX8_ahead_25 ?_
      refine x_lconst X 1 dX8_ahead_26 rfl ?_
      refine x_land X dX8_ahead_27 ?_
      refine x_l2i X dX8_ahead_28 ?_
      refine x_goto X 38 dX8_ahead_29 (by decide) ?_
      exact hret (lan (lsr (σ5 9 (i32 a2)) a1) 1) σ5 H locs ls 38 hV hw dX8_ahead_38

theorem n_M_forgets_0 : Cond.fieldLink RX8 74 "LacePillowModel" "setMet" "[I" ∈ wsX8_forgets := by decide +kernel
theorem n_M_forgets_1 : ∀ w ∈ wsX80, w ∈ wsX8_forgets := by decide +kernel
set_option maxHeartbeats 4000000 in
set_option maxRecDepth 100000 in
theorem c_M_forgets (l : Launch) (G : GT) (ad : Nat → Nat) (hI : Inj LM ad) (σ : St) {Q : St → Prop} (hV : V_M_forgets σ Q) : Met l yX8_forgets wsX8_forgets (rmx 0 0) (Pq vwCl G LM ad σ [.ref (ad 0)]) (Qv vwCl G LM ad Q) 0 0 (Ax LM ad) := by
  unfold V_M_forgets at hV
  refine x_metv (own := RX8) (by decide) rfl rfl (Nat.le_of_ble_eq_true rfl) hI ?_
  intro p e s m args below meth c R QQ X hR hret ls hl hw
  replace hl : lv_has ls 2 [(0, .ref (ad 0))] := hl
  obtain ⟨H, hH⟩ : ∃ z, z = s.heap := ⟨_, rfl⟩
  obtain ⟨locs, hlo⟩ : ∃ z : List Loc, z = [] := ⟨_, rfl⟩
  rw [← hH, ← hlo]
  replace hw : Wx vwCl G LM ad s H locs σ := by rw [hH, hlo]; exact hw
  clear hH hlo
  refine x_iconst X dX8_forgets_0 ?_
  refine x_istore_n X [(1, iV 0), (0, .ref (ad 0))] dX8_forgets_1 rfl hl (by decide) rfl (fun ls hl => ?_)
  refine WL1.use (Gl := fun x1_1 σ2 => ∀ (H : Heap) (locs : List Loc) (ls : Array Slot), Wx vwCl G LM ad s H locs σ2 → lv_has ls 2 [(1, iV x1_1), (0, .ref (ad 0))] → W p l e R s m args below meth c H locs 0 0 QQ (F0 m 2 ls [])) ?_ hV H locs ls hw hl
  clear hV hw hl H locs ls
  intro bk3 x1_1 σ2 hbk3 hV H locs ls hw hl
  refine x_iload_n X dX8_forgets_2 rfl (lv_at hl 0 rfl) ?_
  refine x_sipush X dX8_forgets_3 (by decide) ?_
  refine x_icmp_ge X rfl k32_8192 22 dX8_forgets_6 (by decide) (fun hc => ?_) (fun hc => ?_)
  · replace hV := hV.1 hc
    exact hret σ2 H locs ls 22 hV hw dX8_forgets_22
  · replace hV := hV.2 hc
    refine x_aload_n X dX8_forgets_9 rfl (lv_at hl 1 rfl) ?_
    refine x_getr X hw lm0 cX8 27 (by decide) rfl n_M_forgets_1 n_M_forgets_0 dX8_forgets_10 ?_
    refine x_iload_n X dX8_forgets_13 rfl (lv_at hl 0 rfl) ?_
    refine x_iconst X dX8_forgets_14 ?_
    obtain ⟨hi, hV⟩ := hV
    refine x_iast X hw lm22 rfl rfl hi dX8_forgets_15 (fun H locs σ4 hs hw => ?_)
    replace hV := hV σ4 hs
    refine x_iinc X (k := 0) (x1_1 + 1) [(1, iV (x1_1 + 1)), (0, .ref (ad 0))] dX8_forgets_16 hl rfl rfl (by decide) rfl (fun ls hl => ?_)
    refine x_goto X 2 dX8_forgets_19 (by decide) ?_
    exact hbk3 (x1_1 + 1) σ4 hV H locs ls hw hl

theorem n_M_ways_0 : Cond.fieldLink RX8 120 "LacePillowModel" "many" "I" ∈ wsX8_ways := by decide +kernel
theorem n_M_ways_1 : ∀ w ∈ wsX80, w ∈ wsX8_ways := by decide +kernel
theorem n_M_ways_2 : Cond.constant RX8 261 (40503) ∈ wsX8_ways := by decide +kernel
theorem n_M_ways_3 : Cond.fieldLink RX8 74 "LacePillowModel" "setMet" "[I" ∈ wsX8_ways := by decide +kernel
theorem n_M_ways_4 : Cond.fieldLink RX8 77 "LacePillowModel" "waysMet" "[J" ∈ wsX8_ways := by decide +kernel
theorem n_M_ways_5 : Cond.fieldLink RX8 34 "LacePillowModel" "ahead" "[J" ∈ wsX8_ways := by decide +kernel
set_option maxHeartbeats 4000000 in
set_option maxRecDepth 100000 in
theorem c_M_ways (l : Launch) (G : GT) (ad : Nat → Nat) (hI : Inj LM ad) : ∀ (n : Nat) (σ : St) (a1 : Int) {Q : Int → St → Prop} (hV : V_M_ways n σ a1 Q), Met l yX8_ways wsX8_ways (rmx (1 * n + 1) (25 * n + 24)) (Pq vwCl G LM ad σ [.ref (ad 0), iV a1]) (Ql vwCl G LM ad Q) 0 0 (Ax LM ad) := by
  intro n
  induction n with
  | zero => intro σ a1 Q hV; exact hV.elim
  | succ n ih =>
  intro σ a1 Q hV
  replace hV : B_M_ways (V_M_ways n) σ a1 Q := hV
  obtain ⟨rc, hrc⟩ : ∃ z, z = V_M_ways n := ⟨_, rfl⟩
  rw [← hrc] at hV ih
  clear hrc
  unfold B_M_ways at hV
  refine x_metl (own := RX8) (by decide) rfl rfl (Nat.le_of_ble_eq_true rfl) hI ?_
  intro p e s m args below meth c R QQ X hR hret ls hl hw
  replace hl : lv_has ls 6 [(0, .ref (ad 0)), (1, iV a1)] := hl
  obtain ⟨H, hH⟩ : ∃ z, z = s.heap := ⟨_, rfl⟩
  obtain ⟨locs, hlo⟩ : ∃ z : List Loc, z = [] := ⟨_, rfl⟩
  rw [← hH, ← hlo]
  replace hw : Wx vwCl G LM ad s H locs σ := by rw [hH, hlo]; exact hw
  clear hH hlo
  refine x_iload_n X dX8_ways_0 rfl (lv_at hl 1 rfl) ?_
  refine x_i2l X dX8_ways_1 ?_
  refine x_csi X hw [lV (i32 a1)] [] (c_M_bits l G ad hI σ (i32 a1) hV) (va_cwS 1 X.2.2.2.2 gX8_ways_X8_bits rfl rfl rfl hd_M_bits ⟨x_fr hR.1 rfl, x_fr hR.2 rfl⟩) rfl hl.1 rfl (Nat.le_of_ble_eq_true rfl) dX8_ways_2 ⟨Nat.zero_le _, Nat.zero_le _⟩ (fun r2 σ1 H locs hV hw => ?_)
  refine x_aload_n X dX8_ways_5 rfl (lv_at hl 0 rfl) ?_
  refine x_geti X hw lm0 cX8 5 (by decide) rfl n_M_ways_1 n_M_ways_0 dX8_ways_6 ?_
  refine x_icmp_ne X rfl rfl 14 dX8_ways_9 (by decide) (fun hc => ?_) (fun hc => ?_)
  · replace hV := hV.1 hc
    refine x_iload_n X dX8_ways_14 rfl (lv_at hl 1 rfl) ?_
    refine x_ldcw X 40503 n_M_ways_2 (by decide) dX8_ways_15 ?_
    refine x_imul X dX8_ways_18 ?_
    refine x_bipush X dX8_ways_19 (by decide) ?_
    refine x_iushr X dX8_ways_21 ?_
    refine x_sipush X dX8_ways_22 (by decide) ?_
    refine x_irem X dX8_ways_25 (by decide) ?_
    refine x_bi (fun x2_3 ex2_3 => ?_)
    replace hV := hV x2_3 ex2_3
    clear ex2_3
    refine x_istore_n X [(2, iV x2_3), (0, .ref (ad 0)), (1, iV a1)] dX8_ways_26 rfl hl (by decide) rfl (fun ls hl => ?_)
    refine WL1.use (Gl := fun x2_4 σ5 => ∀ (H : Heap) (locs : List Loc) (ls : Array Slot), Wx vwCl G LM ad s H locs σ5 → lv_has ls 6 [(2, iV x2_4), (0, .ref (ad 0)), (1, iV a1)] → W p l e R s m args below meth c H locs 0 0 QQ (F0 m 27 ls [])) ?_ hV H locs ls hw hl
    clear hV hw hl H locs ls
    intro bk6 x2_4 σ5 hbk6 hV H locs ls hw hl
    refine x_aload_n X dX8_ways_27 rfl (lv_at hl 1 rfl) ?_
    refine x_getr X hw lm0 cX8 27 (by decide) rfl n_M_ways_1 n_M_ways_3 dX8_ways_28 ?_
    refine x_iload_n X dX8_ways_31 rfl (lv_at hl 0 rfl) ?_
    obtain ⟨hi, hV⟩ := hV
    refine x_iald X hw lm22 rfl rfl hi dX8_ways_32 ?_
    have hJ57 : ∀ (σ7 : St) (H : Heap) (locs : List Loc) (ls : Array Slot), J_M_ways_57 a1 Q rc x2_4 σ7 → Wx vwCl G LM ad s H locs σ7 → lv_has ls 6 [(2, iV x2_4), (0, .ref (ad 0)), (1, iV a1)] → W p l e R s m args below meth c H locs 0 0 QQ (F0 m 57 ls []) := by
      intro σ7 H locs ls hV hw hl
      unfold J_M_ways_57 at hV
      refine x_aload_n X dX8_ways_57 rfl (lv_at hl 1 rfl) ?_
      refine x_getr X hw lm0 cX8 27 (by decide) rfl n_M_ways_1 n_M_ways_3 dX8_ways_58 ?_
      refine x_iload_n X dX8_ways_61 rfl (lv_at hl 0 rfl) ?_
      obtain ⟨hi, hV⟩ := hV
      refine x_iald X hw lm22 rfl rfl hi dX8_ways_62 ?_
      refine x_iload_n X dX8_ways_63 rfl (lv_at hl 2 rfl) ?_
      refine x_icmp_ne X rfl rfl 74 dX8_ways_64 (by decide) (fun hc => ?_) (fun hc => ?_)
      · replace hV := hV.1 hc
        refine x_lconst X 0 dX8_ways_74 rfl ?_
        refine x_lstore_n X [(3, lV 0), (2, iV x2_4), (0, .ref (ad 0)), (1, iV a1)] dX8_ways_75 rfl hl (by decide) rfl (fun ls hl => ?_)
        refine x_iconst X dX8_ways_76 ?_
        refine x_istore X [(5, iV 0), (3, lV 0), (2, iV x2_4), (0, .ref (ad 0)), (1, iV a1)] dX8_ways_77 hl (by decide) rfl (fun ls hl => ?_)
        refine WL2.use (Gl := fun x5_8 x3_9 σ10 => ∀ (H : Heap) (locs : List Loc) (ls : Array Slot), Wx vwCl G LM ad s H locs σ10 → lv_has ls 6 [(5, iV x5_8), (3, lV x3_9), (0, .ref (ad 0)), (1, iV a1)] → W p l e R s m args below meth c H locs 0 0 QQ (F0 m 79 ls [])) ?_ hV H locs ls hw (lv_sub hl [0, 1, 3, 4] rfl)
        clear hV hw hl H locs ls
        intro bk11 x5_8 x3_9 σ10 hbk11 hV H locs ls hw hl
        refine x_iload X dX8_ways_79 (lv_at hl 0 rfl) ?_
        refine x_aload_n X dX8_ways_81 rfl (lv_at hl 2 rfl) ?_
        refine x_geti X hw lm0 cX8 5 (by decide) rfl n_M_ways_1 n_M_ways_0 dX8_ways_82 ?_
        refine x_icmp_ge X rfl rfl 133 dX8_ways_85 (by decide) (fun hc => ?_) (fun hc => ?_)
        · replace hV := hV.1 hc
          refine x_iload_n X dX8_ways_133 rfl (lv_at hl 3 rfl) ?_
          refine x_ldcw X 40503 n_M_ways_2 (by decide) dX8_ways_134 ?_
          refine x_imul X dX8_ways_137 ?_
          refine x_bipush X dX8_ways_138 (by decide) ?_
          refine x_iushr X dX8_ways_140 ?_
          refine x_sipush X dX8_ways_141 (by decide) ?_
          refine x_irem X dX8_ways_144 (by decide) ?_
          refine x_bi (fun x2_12 ex2_12 => ?_)
          replace hV := hV x2_12 ex2_12
          clear ex2_12
          refine x_istore_n X [(2, iV x2_12), (5, iV x5_8), (3, lV x3_9), (0, .ref (ad 0)), (1, iV a1)] dX8_ways_145 rfl hl (by decide) rfl (fun ls hl => ?_)
          refine WL1.use (Gl := fun x2_13 σ14 => ∀ (H : Heap) (locs : List Loc) (ls : Array Slot), Wx vwCl G LM ad s H locs σ14 → lv_has ls 6 [(2, iV x2_13), (3, lV x3_9), (0, .ref (ad 0)), (1, iV a1)] → W p l e R s m args below meth c H locs 0 0 QQ (F0 m 146 ls [])) ?_ hV H locs ls hw (lv_sub hl [0, 2, 3, 4] rfl)
          clear hV hw hl H locs ls
          intro bk15 x2_13 σ14 hbk15 hV H locs ls hw hl
          refine x_aload_n X dX8_ways_146 rfl (lv_at hl 2 rfl) ?_
          refine x_getr X hw lm0 cX8 27 (by decide) rfl n_M_ways_1 n_M_ways_3 dX8_ways_147 ?_
          refine x_iload_n X dX8_ways_150 rfl (lv_at hl 0 rfl) ?_
          obtain ⟨hi, hV⟩ := hV
          refine x_iald X hw lm22 rfl rfl hi dX8_ways_151 ?_
          refine x_if_lt X rfl 166 dX8_ways_152 (by decide) (fun hc => ?_) (fun hc => ?_)
          · replace hV := hV.1 hc
            refine x_aload_n X dX8_ways_166 rfl (lv_at hl 2 rfl) ?_
            refine x_getr X hw lm0 cX8 27 (by decide) rfl n_M_ways_1 n_M_ways_3 dX8_ways_167 ?_
            refine x_iload_n X dX8_ways_170 rfl (lv_at hl 0 rfl) ?_
            refine x_iload_n X dX8_ways_171 rfl (lv_at hl 3 rfl) ?_
            obtain ⟨hi, hV⟩ := hV
            refine x_iast X hw lm22 rfl rfl hi dX8_ways_172 (fun H locs σ16 hs hw => ?_)
            replace hV := hV σ16 hs
            refine x_aload_n X dX8_ways_173 rfl (lv_at hl 2 rfl) ?_
            refine x_getr X hw lm0 cX8 28 (by decide) rfl n_M_ways_1 n_M_ways_4 dX8_ways_174 ?_
            refine x_iload_n X dX8_ways_177 rfl (lv_at hl 0 rfl) ?_
            refine x_lload_n X dX8_ways_178 rfl (lv_at hl 1 rfl) ?_
            obtain ⟨hi, hV⟩ := hV
            refine x_last X hw lm23 rfl rfl hi dX8_ways_179 (fun H locs σ17 hs hw => ?_)
            replace hV := hV σ17 hs
            refine x_lload_n X dX8_ways_180 rfl (lv_at hl 1 rfl) ?_
            exact hret x3_9 σ17 H locs ls 181 hV hw dX8_ways_181
          · replace hV := hV.2 hc
            refine x_iload_n X dX8_ways_155 rfl (lv_at hl 0 rfl) ?_
            refine x_iconst X dX8_ways_156 ?_
            refine x_iadd X dX8_ways_157 ?_
            refine x_sipush X dX8_ways_158 (by decide) ?_
            refine x_irem X dX8_ways_161 (by decide) ?_
            refine x_bi (fun x2_18 ex2_18 => ?_)
            replace hV := hV x2_18 ex2_18
            clear ex2_18
            refine x_istore_n X [(2, iV x2_18), (3, lV x3_9), (0, .ref (ad 0)), (1, iV a1)] dX8_ways_162 rfl hl (by decide) rfl (fun ls hl => ?_)
            refine x_goto X 146 dX8_ways_163 (by decide) ?_
            exact hbk15 x2_18 σ14 hV H locs ls hw hl
        · replace hV := hV.2 hc
          refine x_iload_n X dX8_ways_88 rfl (lv_at hl 3 rfl) ?_
          refine x_iload X dX8_ways_89 (lv_at hl 0 rfl) ?_
          refine x_ishr X dX8_ways_91 ?_
          refine x_iconst X dX8_ways_92 ?_
          refine x_iand X dX8_ways_93 ?_
          refine x_if_ne X rfl 127 dX8_ways_94 (by decide) (fun hc => ?_) (fun hc => ?_)
          · replace hV := hV.1 hc
            refine x_iinc X (k := 0) (x5_8 + 1) [(5, iV (x5_8 + 1)), (3, lV x3_9), (0, .ref (ad 0)), (1, iV a1)] dX8_ways_127 hl rfl rfl (by decide) rfl (fun ls hl => ?_)
            refine x_goto X 79 dX8_ways_130 (by decide) ?_
            exact hbk11 (x5_8 + 1) x3_9 σ10 hV H locs ls hw hl
          · replace hV := hV.2 hc
            refine x_aload_n X dX8_ways_97 rfl (lv_at hl 2 rfl) ?_
            refine x_getr X hw lm0 cX8 10 (by decide) rfl n_M_ways_1 n_M_ways_5 dX8_ways_98 ?_
            refine x_iload X dX8_ways_101 (lv_at hl 0 rfl) ?_
            obtain ⟨hi, hV⟩ := hV
            refine x_lald X hw lm9 rfl rfl hi dX8_ways_103 ?_
            refine x_iload_n X dX8_ways_104 rfl (lv_at hl 3 rfl) ?_
            refine x_iconst X dX8_ways_105 ?_
            refine x_ixor X dX8_ways_106 ?_
            refine x_i2l X dX8_ways_107 ?_
            refine x_land X dX8_ways_108 ?_
            refine x_lconst X 0 dX8_ways_109 rfl ?_
            refine x_lcmp_ne X rfl k64_0 127 dX8_ways_110 dX8_ways_111 (by decide) (fun hc => ?_) (fun hc => ?_)
            · replace hV := hV.1 hc
              refine x_iinc X (k := 0) (x5_8 + 1) [(5, iV (x5_8 + 1)), (3, lV x3_9), (0, .ref (ad 0)), (1, iV a1)] dX8_ways_127 hl rfl rfl (by decide) rfl (fun ls hl => ?_)
              refine x_goto X 79 dX8_ways_130 (by decide) ?_
              exact hbk11 (x5_8 + 1) x3_9 σ10 hV H locs ls hw hl
            · replace hV := hV.2 hc
              refine x_lload_n X dX8_ways_114 rfl (lv_at hl 1 rfl) ?_
              refine x_aload_n X dX8_ways_115 rfl (lv_at hl 2 rfl) ?_
              refine x_iload_n X dX8_ways_116 rfl (lv_at hl 3 rfl) ?_
              refine x_iconst X dX8_ways_117 ?_
              refine x_iload X dX8_ways_118 (lv_at hl 0 rfl) ?_
              refine x_ishl X dX8_ways_120 ?_
              refine x_ior X dX8_ways_121 ?_
              refine x_cvl X hw [iV (iro a1 (ish 1 x5_8))] [lV x3_9] (ih σ10 (iro a1 (ish 1 x5_8)) hV) (cwV 1 X.2.2.2.2 gX8_ways_X8_ways rfl rfl rfl hd_M_ways ⟨by have := hR.1; simp only [rmx]; omega, by have := hR.2; simp only [rmx]; omega⟩) lm0 cX8 rfl hl.1 rfl (Nat.le_of_ble_eq_true rfl) dX8_ways_122 ⟨Nat.zero_le _, Nat.zero_le _⟩ (fun r20 σ19 H locs hV hw => ?_)
              refine x_ladd X dX8_ways_125 ?_
              refine x_bl (fun x3_21 ex3_21 => ?_)
              replace hV := hV x3_21 ex3_21
              clear ex3_21
              refine x_lstore_n X [(3, lV x3_21), (5, iV x5_8), (0, .ref (ad 0)), (1, iV a1)] dX8_ways_126 rfl hl (by decide) rfl (fun ls hl => ?_)
              refine x_iinc X (k := 1) (x5_8 + 1) [(5, iV (x5_8 + 1)), (3, lV x3_21), (0, .ref (ad 0)), (1, iV a1)] dX8_ways_127 hl rfl rfl (by decide) rfl (fun ls hl => ?_)
              refine x_goto X 79 dX8_ways_130 (by decide) ?_
              exact hbk11 (x5_8 + 1) x3_21 σ19 hV H locs ls hw hl
      · replace hV := hV.2 hc
        refine x_aload_n X dX8_ways_67 rfl (lv_at hl 1 rfl) ?_
        refine x_getr X hw lm0 cX8 28 (by decide) rfl n_M_ways_1 n_M_ways_4 dX8_ways_68 ?_
        refine x_iload_n X dX8_ways_71 rfl (lv_at hl 0 rfl) ?_
        obtain ⟨hi, hV⟩ := hV
        refine x_lald X hw lm23 rfl rfl hi dX8_ways_72 ?_
        exact hret (σ7 23 (i32 x2_4)) σ7 H locs ls 73 hV hw dX8_ways_73
    refine x_if_lt X rfl 57 dX8_ways_33 (by decide) (fun hc => ?_) (fun hc => ?_)
    · replace hV := hV.1 hc
      exact hJ57 σ5 H locs ls hV hw hl
    · replace hV := hV.2 hc
      refine x_aload_n X dX8_ways_36 rfl (lv_at hl 1 rfl) ?_
      refine x_getr X hw lm0 cX8 27 (by decide) rfl n_M_ways_1 n_M_ways_3 dX8_ways_37 ?_
      refine x_iload_n X dX8_ways_40 rfl (lv_at hl 0 rfl) ?_
      obtain ⟨hi, hV⟩ := hV
      refine x_iald X hw lm22 rfl rfl hi dX8_ways_41 ?_
      refine x_iload_n X dX8_ways_42 rfl (lv_at hl 2 rfl) ?_
      refine x_icmp_eq X rfl rfl 57 dX8_ways_43 (by decide) (fun hc => ?_) (fun hc => ?_)
      · replace hV := hV.1 hc
        exact hJ57 σ5 H locs ls hV hw hl
      · replace hV := hV.2 hc
        refine x_iload_n X dX8_ways_46 rfl (lv_at hl 0 rfl) ?_
        refine x_iconst X dX8_ways_47 ?_
        refine x_iadd X dX8_ways_48 ?_
        refine x_sipush X dX8_ways_49 (by decide) ?_
        refine x_irem X dX8_ways_52 (by decide) ?_
        refine x_bi (fun x2_22 ex2_22 => ?_)
        replace hV := hV x2_22 ex2_22
        clear ex2_22
        refine x_istore_n X [(2, iV x2_22), (0, .ref (ad 0)), (1, iV a1)] dX8_ways_53 rfl hl (by decide) rfl (fun ls hl => ?_)
        refine x_goto X 27 dX8_ways_54 (by decide) ?_
        exact hbk6 x2_22 σ5 hV H locs ls hw hl
  · replace hV := hV.2 hc
    refine x_lconst X 1 dX8_ways_12 rfl ?_
    exact hret 1 σ1 H locs ls 13 hV hw dX8_ways_13
