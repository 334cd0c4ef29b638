theorem n_M_atHome_0 : Cond.fieldLink RX8 41 "LacePillowModel" "at" "[I" ∈ wsX8_atHome := by decide +kernel
theorem n_M_atHome_1 : ∀ w ∈ wsX80, w ∈ wsX8_atHome := by decide +kernel
set_option maxHeartbeats 4000000 in
set_option maxRecDepth 100000 in
theorem c_M_atHome (l : Launch) (G : GT) (ad : Nat → Nat) (hI : Inj LM ad) (σ : St) {Q : Int → St → Prop} (hV : V_M_atHome σ Q) : Met l yX8_atHome wsX8_atHome (rmx 4 94) (Pq vwCl G LM ad σ [.ref (ad 0)]) (Qi vwCl G LM ad Q) 0 0 (Ax LM ad) := by
  unfold V_M_atHome at hV
  refine x_meti (own := RX8) (by decide) rfl rfl (Nat.le_of_ble_eq_true rfl) hI ?_
  intro p e s m args below meth c R QQ X hR hret ls hl hw
  replace hl : lv_has ls 3 [(0, .ref (ad 0))] := hl
  obtain ⟨H, hH⟩ : ∃ z, z = s.heap := ⟨_, rfl⟩
  obtain ⟨locs, hlo⟩ : ∃ z : List Loc, z = [] := ⟨_, rfl⟩
  rw [← hH, ← hlo]
  replace hw : Wx vwCl G LM ad s H locs σ := by rw [hH, hlo]; exact hw
  clear hH hlo
  refine x_aload_n X dX8_atHome_0 rfl (lv_at hl 0 rfl) ?_
  refine x_cvv X hw [] [] (c_M_theWork l G ad hI σ hV) (cwV 0 X.2.2.2.2 gX8_atHome_X8_theWork rfl rfl rfl hd_M_theWork ⟨x_fr hR.1 rfl, x_fr hR.2 rfl⟩) lm0 cX8 rfl hl.1 rfl (Nat.le_of_ble_eq_true rfl) dX8_atHome_1 ⟨Nat.zero_le _, Nat.zero_le _⟩ (fun σ1 H locs hV hw => ?_)
  refine x_iconst X dX8_atHome_4 ?_
  refine x_istore_n X [(1, iV 0), (0, .ref (ad 0))] dX8_atHome_5 rfl hl (by decide) rfl (fun ls hl => ?_)
  refine x_iconst X dX8_atHome_6 ?_
  refine x_istore_n X [(2, iV 0), (1, iV 0), (0, .ref (ad 0))] dX8_atHome_7 rfl hl (by decide) rfl (fun ls hl => ?_)
  refine WL2.use (Gl := fun x2_2 x1_3 σ4 => ∀ (H : Heap) (locs : List Loc) (ls : Array Slot), Wx vwCl G LM ad s H locs σ4 → lv_has ls 3 [(2, iV x2_2), (1, iV x1_3), (0, .ref (ad 0))] → W p l e R s m args below meth c H locs 0 0 QQ (F0 m 8 ls [])) ?_ hV H locs ls hw hl
  clear hV hw hl H locs ls
  intro bk5 x2_2 x1_3 σ4 hbk5 hV H locs ls hw hl
  refine x_iload_n X dX8_atHome_8 rfl (lv_at hl 0 rfl) ?_
  refine x_aload_n X dX8_atHome_9 rfl (lv_at hl 2 rfl) ?_
  refine x_cvi X hw [] [iV x2_2] (c_M_threads l G ad hI σ4 hV) (cwV 0 X.2.2.2.2 gX8_atHome_X8_threads rfl rfl rfl hd_M_threads ⟨x_fr hR.1 rfl, x_fr hR.2 rfl⟩) lm0 cX8 rfl hl.1 rfl (Nat.le_of_ble_eq_true rfl) dX8_atHome_10 ⟨Nat.zero_le _, Nat.zero_le _⟩ (fun r7 σ6 H locs hV hw => ?_)
  refine x_icmp_ge X rfl rfl 40 dX8_atHome_13 (by decide) (fun hc => ?_) (fun hc => ?_)
  · replace hV := hV.1 hc
    refine x_iload_n X dX8_atHome_40 rfl (lv_at hl 1 rfl) ?_
    exact hret x1_3 σ6 H locs ls 41 hV hw dX8_atHome_41
  · replace hV := hV.2 hc
    refine x_iload_n X dX8_atHome_16 rfl (lv_at hl 1 rfl) ?_
    refine x_aload_n X dX8_atHome_17 rfl (lv_at hl 2 rfl) ?_
    refine x_getr X hw lm0 cX8 13 (by decide) rfl n_M_atHome_1 n_M_atHome_0 dX8_atHome_18 ?_
    refine x_iload_n X dX8_atHome_21 rfl (lv_at hl 0 rfl) ?_
    obtain ⟨hi, hV⟩ := hV
    refine x_iald X hw lm11 rfl rfl hi dX8_atHome_22 ?_
    refine x_iload_n X dX8_atHome_23 rfl (lv_at hl 0 rfl) ?_
    refine x_icmp_ne X rfl rfl 31 dX8_atHome_24 (by decide) (fun hc => ?_) (fun hc => ?_)
    · replace hV := hV.1 hc
      refine x_iconst X dX8_atHome_31 ?_
      refine x_iadd X dX8_atHome_32 ?_
      refine x_bi (fun x1_8 ex1_8 => ?_)
      replace hV := hV x1_8 ex1_8
      clear ex1_8
      refine x_istore_n X [(1, iV x1_8), (2, iV x2_2), (0, .ref (ad 0))] dX8_atHome_33 rfl hl (by decide) rfl (fun ls hl => ?_)
      refine x_iinc X (k := 1) (x2_2 + 1) [(2, iV (x2_2 + 1)), (1, iV x1_8), (0, .ref (ad 0))] dX8_atHome_34 hl rfl rfl (by decide) rfl (fun ls hl => ?_)
      refine x_goto X 8 dX8_atHome_37 (by decide) ?_
      exact hbk5 (x2_2 + 1) x1_8 σ6 hV H locs ls hw hl
    · replace hV := hV.2 hc
      refine x_iconst X dX8_atHome_27 ?_
      refine x_goto X 32 dX8_atHome_28 (by decide) ?_
      refine x_iadd X dX8_atHome_32 ?_
      refine x_bi (fun x1_9 ex1_9 => ?_)
      replace hV := hV x1_9 ex1_9
      clear ex1_9
      refine x_istore_n X [(1, iV x1_9), (2, iV x2_2), (0, .ref (ad 0))] dX8_atHome_33 rfl hl (by decide) rfl (fun ls hl => ?_)
      refine x_iinc X (k := 1) (x2_2 + 1) [(2, iV (x2_2 + 1)), (1, iV x1_9), (0, .ref (ad 0))] dX8_atHome_34 hl rfl rfl (by decide) rfl (fun ls hl => ?_)
      refine x_goto X 8 dX8_atHome_37 (by decide) ?_
      exact hbk5 (x2_2 + 1) x1_9 σ6 hV H locs ls hw hl

theorem n_M_made_0 : Cond.fieldLink RX8 186 "LacePillowModel" "crossings" "I" ∈ wsX8_made := by decide +kernel
theorem n_M_made_1 : ∀ w ∈ wsX80, w ∈ wsX8_made := by decide +kernel
set_option maxHeartbeats 4000000 in
set_option maxRecDepth 100000 in
theorem c_M_made (l : Launch) (G : GT) (ad : Nat → Nat) (hI : Inj LM ad) (σ : St) {Q : Int → St → Prop} (hV : V_M_made σ Q) : Met l yX8_made wsX8_made (rmx 4 94) (Pq vwCl G LM ad σ [.ref (ad 0)]) (Qi vwCl G LM ad Q) 0 0 (Ax LM ad) := by
  unfold V_M_made at hV
  refine x_meti (own := RX8) (by decide) rfl rfl (Nat.le_of_ble_eq_true rfl) hI ?_
  intro p e s m args below meth c R QQ X hR hret ls hl hw
  replace hl : lv_has ls 1 [(0, .ref (ad 0))] := hl
  obtain ⟨H, hH⟩ : ∃ z, z = s.heap := ⟨_, rfl⟩
  obtain ⟨locs, hlo⟩ : ∃ z : List Loc, z = [] := ⟨_, rfl⟩
  rw [← hH, ← hlo]
  replace hw : Wx vwCl G LM ad s H locs σ := by rw [hH, hlo]; exact hw
  clear hH hlo
  refine x_aload_n X dX8_made_0 rfl (lv_at hl 0 rfl) ?_
  refine x_cvv X hw [] [] (c_M_theWork l G ad hI σ hV) (cwV 0 X.2.2.2.2 gX8_made_X8_theWork rfl rfl rfl hd_M_theWork ⟨x_fr hR.1 rfl, x_fr hR.2 rfl⟩) lm0 cX8 rfl hl.1 rfl (Nat.le_of_ble_eq_true rfl) dX8_made_1 ⟨Nat.zero_le _, Nat.zero_le _⟩ (fun σ1 H locs hV hw => ?_)
  refine x_aload_n X dX8_made_4 rfl (lv_at hl 0 rfl) ?_
  refine x_geti X hw lm0 cX8 15 (by decide) rfl n_M_made_1 n_M_made_0 dX8_made_5 ?_
  exact hret (σ1 0 15) σ1 H locs ls 8 hV hw dX8_made_8

theorem n_M_count_0 : Cond.fieldLink RX8 9 "LacePillowModel" "now" "[I" ∈ wsX8_count := by decide +kernel
theorem n_M_count_1 : ∀ w ∈ wsX80, w ∈ wsX8_count := by decide +kernel
theorem n_M_count_2 : Cond.fieldLink RX8 168 "LacePillowModel" "taped" "I" ∈ wsX8_count := by decide +kernel
theorem n_M_count_3 : Cond.constant RX8 149 (-1000000001) ∈ wsX8_count := by decide +kernel
set_option maxHeartbeats 4000000 in
set_option maxRecDepth 100000 in
theorem c_M_count (l : Launch) (G : GT) (ad : Nat → Nat) (hI : Inj LM ad) (σ : St) (a1 : Int) {Q : Int → St → Prop} (hV : V_M_count σ a1 Q) : Met l yX8_count wsX8_count (rmx 5 117) (Pq vwCl G LM ad σ [.ref (ad 0), iV a1]) (Qi vwCl G LM ad Q) 0 0 (Ax LM ad) := by
  unfold V_M_count at hV
  refine x_meti (own := RX8) (by decide) rfl rfl (Nat.le_of_ble_eq_true rfl) hI ?_
  intro p e s m args below meth c R QQ X hR hret ls hl hw
  replace hl : lv_has ls 2 [(0, .ref (ad 0)), (1, iV a1)] := hl
  obtain ⟨H, hH⟩ : ∃ z, z = s.heap := ⟨_, rfl⟩
  obtain ⟨locs, hlo⟩ : ∃ z : List Loc, z = [] := ⟨_, rfl⟩
  rw [← hH, ← hlo]
  replace hw : Wx vwCl G LM ad s H locs σ := by rw [hH, hlo]; exact hw
  clear hH hlo
  refine x_iload_n X dX8_count_0 rfl (lv_at hl 1 rfl) ?_
  by_cases hc0 : i32 a1 = 0
  · replace hV := hV.1 hc0
    refine x_tabIn X 0 40 dX8_count_1 (hc0) (by decide) (by decide) rfl (by decide) ?_
    refine x_aload_n X dX8_count_40 rfl (lv_at hl 0 rfl) ?_
    refine x_getr X hw lm0 cX8 0 (by decide) rfl n_M_count_1 n_M_count_0 dX8_count_41 ?_
    refine x_iconst X dX8_count_44 ?_
    refine x_iald X hw lm1 k32_0 rfl (show (0 : Int) ≤ 0 ∧ (0 : Int) < 204 by decide) dX8_count_45 ?_
    exact hret (σ 1 0) σ H locs ls 46 hV hw dX8_count_46
  by_cases hc1 : i32 a1 = 1
  · replace hV := hV.2.1 hc1
    refine x_tabIn X 1 47 dX8_count_1 (hc1) (by decide) (by decide) rfl (by decide) ?_
    refine x_aload_n X dX8_count_47 rfl (lv_at hl 0 rfl) ?_
    refine x_geti X hw lm0 cX8 12 (by decide) rfl n_M_count_1 n_M_count_2 dX8_count_48 ?_
    exact hret (σ 0 12) σ H locs ls 51 hV hw dX8_count_51
  by_cases hc2 : i32 a1 = 2
  · replace hV := hV.2.2.1 hc2
    refine x_tabIn X 2 52 dX8_count_1 (hc2) (by decide) (by decide) rfl (by decide) ?_
    refine x_aload_n X dX8_count_52 rfl (lv_at hl 0 rfl) ?_
    refine x_iconst X dX8_count_53 ?_
    refine x_cvi X hw [iV 1] [] (c_M_all l G ad hI σ 1 hV) (cwV 1 X.2.2.2.2 gX8_count_X8_all rfl rfl rfl hd_M_all ⟨x_fr hR.1 rfl, x_fr hR.2 rfl⟩) lm0 cX8 rfl hl.1 rfl (Nat.le_of_ble_eq_true rfl) dX8_count_54 ⟨Nat.zero_le _, Nat.zero_le _⟩ (fun r2 σ1 H locs hV hw => ?_)
    exact hret r2 σ1 H locs ls 57 hV hw dX8_count_57
  by_cases hc3 : i32 a1 = 3
  · replace hV := hV.2.2.2.1 hc3
    refine x_tabIn X 3 58 dX8_count_1 (hc3) (by decide) (by decide) rfl (by decide) ?_
    refine x_aload_n X dX8_count_58 rfl (lv_at hl 0 rfl) ?_
    refine x_iconst X dX8_count_59 ?_
    refine x_cvi X hw [iV 0] [] (c_M_all l G ad hI σ 0 hV) (cwV 1 X.2.2.2.2 gX8_count_X8_all rfl rfl rfl hd_M_all ⟨x_fr hR.1 rfl, x_fr hR.2 rfl⟩) lm0 cX8 rfl hl.1 rfl (Nat.le_of_ble_eq_true rfl) dX8_count_60 ⟨Nat.zero_le _, Nat.zero_le _⟩ (fun r4 σ3 H locs hV hw => ?_)
    exact hret r4 σ3 H locs ls 63 hV hw dX8_count_63
  by_cases hc4 : i32 a1 = 4
  · replace hV := hV.2.2.2.2.1 hc4
    refine x_tabIn X 4 64 dX8_count_1 (hc4) (by decide) (by decide) rfl (by decide) ?_
    refine x_aload_n X dX8_count_64 rfl (lv_at hl 0 rfl) ?_
    refine x_cvi X hw [] [] (c_M_made l G ad hI σ hV) (cwV 0 X.2.2.2.2 gX8_count_X8_made rfl rfl rfl hd_M_made ⟨x_fr hR.1 rfl, x_fr hR.2 rfl⟩) lm0 cX8 rfl hl.1 rfl (Nat.le_of_ble_eq_true rfl) dX8_count_65 ⟨Nat.zero_le _, Nat.zero_le _⟩ (fun r6 σ5 H locs hV hw => ?_)
    exact hret r6 σ5 H locs ls 68 hV hw dX8_count_68
  by_cases hc5 : i32 a1 = 5
  · replace hV := hV.2.2.2.2.2.1 hc5
    refine x_tabIn X 5 69 dX8_count_1 (hc5) (by decide) (by decide) rfl (by decide) ?_
    refine x_aload_n X dX8_count_69 rfl (lv_at hl 0 rfl) ?_
    refine x_cvi X hw [] [] (c_M_atHome l G ad hI σ hV) (cwV 0 X.2.2.2.2 gX8_count_X8_atHome rfl rfl rfl hd_M_atHome ⟨x_fr hR.1 rfl, x_fr hR.2 rfl⟩) lm0 cX8 rfl hl.1 rfl (Nat.le_of_ble_eq_true rfl) dX8_count_70 ⟨Nat.zero_le _, Nat.zero_le _⟩ (fun r8 σ7 H locs hV hw => ?_)
    exact hret r8 σ7 H locs ls 73 hV hw dX8_count_73
  have hc : i32 a1 < 0 ∨ 5 < i32 a1 := by omega
  replace hV := hV.2.2.2.2.2.2 hc
  refine x_tabOut X 74 dX8_count_1 hc (by decide) ?_
  refine x_aload_n X dX8_count_74 rfl (lv_at hl 0 rfl) ?_
  refine x_ldc X (-1000000001) n_M_count_3 (by decide) dX8_count_75 ?_
  refine x_cvi X hw [iV (-1000000001)] [] (c_M_errs l G ad hI σ (-1000000001) hV) (cwV 1 X.2.2.2.2 gX8_count_X8_errs rfl rfl rfl hd_M_errs ⟨x_fr hR.1 rfl, x_fr hR.2 rfl⟩) lm0 cX8 rfl hl.1 rfl (Nat.le_of_ble_eq_true rfl) dX8_count_77 ⟨Nat.zero_le _, Nat.zero_le _⟩ (fun r10 σ9 H locs hV hw => ?_)
  exact hret r10 σ9 H locs ls 80 hV hw dX8_count_80

theorem n_M_told_0 : Cond.constantLong RX8 219 (7) ∈ wsX8_told := by decide +kernel
theorem n_M_told_1 : Cond.constant RX8 149 (-1000000001) ∈ wsX8_told := by decide +kernel
theorem n_M_told_2 : Cond.fieldLink RX8 19 "LacePillowModel" "met" "[I" ∈ wsX8_told := by decide +kernel
theorem n_M_told_3 : ∀ w ∈ wsX80, w ∈ wsX8_told := by decide +kernel
set_option maxHeartbeats 4000000 in
set_option maxRecDepth 100000 in
theorem c_M_told (l : Launch) (G : GT) (ad : Nat → Nat) (hI : Inj LM ad) (σ : St) (a1 : Int) {Q : Int → St → Prop} (hV : V_M_told σ a1 Q) : Met l yX8_told wsX8_told (rmx 1 25) (Pq vwCl G LM ad σ [.ref (ad 0), iV a1]) (Qi vwCl G LM ad Q) 0 0 (Ax LM ad) := by
  unfold V_M_told at hV
  refine x_meti (own := RX8) (by decide) rfl rfl (Nat.le_of_ble_eq_true rfl) hI ?_
  intro p e s m args below meth c R QQ X hR hret ls hl hw
  replace hl : lv_has ls 2 [(0, .ref (ad 0)), (1, iV a1)] := hl
  obtain ⟨H, hH⟩ : ∃ z, z = s.heap := ⟨_, rfl⟩
  obtain ⟨locs, hlo⟩ : ∃ z : List Loc, z = [] := ⟨_, rfl⟩
  rw [← hH, ← hlo]
  replace hw : Wx vwCl G LM ad s H locs σ := by rw [hH, hlo]; exact hw
  clear hH hlo
  refine x_iload_n X dX8_told_0 rfl (lv_at hl 1 rfl) ?_
  refine x_i2l X dX8_told_1 ?_
  refine x_lconst X 1 dX8_told_2 rfl ?_
  refine x_ldc2 X 7 n_M_told_0 (by decide) dX8_told_3 ?_
  refine x_csz X hw [lV (i32 a1), lV 1, lV 7] [] (c_M_in l G ad hI σ (i32 a1) 1 7 hV) (va_cwS 3 X.2.2.2.2 gX8_told_X8_in rfl rfl rfl hd_M_in ⟨x_fr hR.1 rfl, x_fr hR.2 rfl⟩) rfl hl.1 rfl (Nat.le_of_ble_eq_true rfl) dX8_told_6 ⟨Nat.zero_le _, Nat.zero_le _⟩ (fun r2 σ1 H locs hr2 hV hw => ?_)
  refine x_if_eq X rfl 21 dX8_told_9 (by decide) (fun hc => ?_) (fun hc => ?_)
  · replace hV := hV.1 hc
    refine x_aload_n X dX8_told_21 rfl (lv_at hl 0 rfl) ?_
    refine x_ldc X (-1000000001) n_M_told_1 (by decide) dX8_told_22 ?_
    refine x_cvi X hw [iV (-1000000001)] [] (c_M_errs l G ad hI σ1 (-1000000001) hV) (cwV 1 X.2.2.2.2 gX8_told_X8_errs rfl rfl rfl hd_M_errs ⟨x_fr hR.1 rfl, x_fr hR.2 rfl⟩) lm0 cX8 rfl hl.1 rfl (Nat.le_of_ble_eq_true rfl) dX8_told_24 ⟨Nat.zero_le _, Nat.zero_le _⟩ (fun r4 σ3 H locs hV hw => ?_)
    exact hret r4 σ3 H locs ls 27 hV hw dX8_told_27
  · replace hV := hV.2 hc
    refine x_aload_n X dX8_told_12 rfl (lv_at hl 0 rfl) ?_
    refine x_getr X hw lm0 cX8 4 (by decide) rfl n_M_told_3 n_M_told_2 dX8_told_13 ?_
    refine x_iload_n X dX8_told_16 rfl (lv_at hl 1 rfl) ?_
    obtain ⟨hi, hV⟩ := hV
    refine x_iald X hw lm4 rfl rfl hi dX8_told_17 ?_
    refine x_goto X 27 dX8_told_18 (by decide) ?_
    exact hret (σ1 4 (i32 a1)) σ1 H locs ls 27 hV hw dX8_told_27
