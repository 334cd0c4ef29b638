set_option maxHeartbeats 4000000 in
set_option maxRecDepth 100000 in
theorem c_P_noneIfBelow0 (l : Launch) (G : GT) (ad : Nat → Nat) (hI : Inj LX ad) (σ : St) (a1 : Int) {Q : Int → St → Prop} (hV : V_P_noneIfBelow0 σ a1 Q) : Met l yX7_noneIfBelow0 wsX7_noneIfBelow0 (rmx 1 21) (Pq vwCl G LX ad σ [.ref (ad 0), iV a1]) (Qi vwCl G LX ad Q) 0 0 (Ax LX ad) := by
  unfold V_P_noneIfBelow0 at hV
  refine x_meti (own := RX7) (by decide) rfl rfl (Nat.le_of_ble_eq_true rfl) hI ?_
  intro p e s m args below meth c R QQ X hR hret ls hl hw
  replace hl : lv_has ls 2 [(0, .ref (ad 0)), (1, iV a1)] := hl
  obtain ⟨H, hH⟩ : ∃ z, z = s.heap := ⟨_, rfl⟩
  obtain ⟨locs, hlo⟩ : ∃ z : List Loc, z = [] := ⟨_, rfl⟩
  rw [← hH, ← hlo]
  replace hw : Wx vwCl G LX ad s H locs σ := by rw [hH, hlo]; exact hw
  clear hH hlo
  refine x_iload_n X dX7_noneIfBelow0_0 rfl (lv_at hl 1 rfl) ?_
  refine x_if_ge X rfl 12 dX7_noneIfBelow0_1 (by decide) (fun hc => ?_) (fun hc => ?_)
  · replace hV := hV.1 hc
    refine x_iload_n X dX7_noneIfBelow0_12 rfl (lv_at hl 1 rfl) ?_
    exact hret a1 σ H locs ls 13 hV hw dX7_noneIfBelow0_13
  · replace hV := hV.2 hc
    refine x_aload_n X dX7_noneIfBelow0_4 rfl (lv_at hl 0 rfl) ?_
    refine x_iconst X dX7_noneIfBelow0_5 ?_
    refine x_cvi X hw [iV 2] [] (c_P_fail l G ad hI σ 2 hV) (cwV 1 X.2.2.2.2 gX7_noneIfBelow0_X7_fail rfl rfl rfl hd_P_fail ⟨x_fr hR.1 rfl, x_fr hR.2 rfl⟩) lx0 cX7 rfl hl.1 rfl (Nat.le_of_ble_eq_true rfl) dX7_noneIfBelow0_6 ⟨Nat.zero_le _, Nat.zero_le _⟩ (fun r2 σ1 H locs hV hw => ?_)
    refine x_goto X 13 dX7_noneIfBelow0_9 (by decide) ?_
    exact hret r2 σ1 H locs ls 13 hV hw dX7_noneIfBelow0_13

theorem n_P_stitches_0 : Cond.fieldLink RX7 33 "LacePillow" "ground" "LLacePillow$Ground;" ∈ wsX7_stitches := by decide +kernel
theorem n_P_stitches_1 : ∀ w ∈ wsX70, w ∈ wsX7_stitches := by decide +kernel
theorem n_P_stitches_2 : Cond.fieldLink RX7 119 "LacePillow$Ground" "size" "I" ∈ wsX7_stitches := by decide +kernel
theorem n_P_stitches_3 : ∀ w ∈ wsX00, w ∈ wsX7_stitches := by decide +kernel
theorem n_P_stitches_4 : Cond.fieldLink RX7 156 "LacePillow$Ground" "deep" "I" ∈ wsX7_stitches := by decide +kernel
theorem n_P_stitches_5 : Cond.fieldLink RX7 58 "LacePillow" "workedBits" "J" ∈ wsX7_stitches := by decide +kernel
theorem n_P_stitches_6 : Cond.fieldLink RX7 12 "LacePillow" "plan" "LLacePillow$Plan;" ∈ wsX7_stitches := by decide +kernel
theorem n_P_stitches_7 : Cond.fieldLink RX7 169 "LacePillow$Plan" "worked" "I" ∈ wsX7_stitches := by decide +kernel
theorem n_P_stitches_8 : ∀ w ∈ wsX20, w ∈ wsX7_stitches := by decide +kernel
set_option maxHeartbeats 4000000 in
set_option maxRecDepth 100000 in
theorem c_P_stitches (l : Launch) (G : GT) (ad : Nat → Nat) (hI : Inj LX ad) (σ : St) (a1 : Int) {Q : Int → St → Prop} (hV : V_P_stitches σ a1 Q) : Met l yX7_stitches wsX7_stitches (rmx 3 76) (Pq vwCl G LX ad σ [.ref (ad 0), iV a1]) (Qi vwCl G LX ad Q) 0 0 (Ax LX ad) := by
  unfold V_P_stitches at hV
  refine x_meti (own := RX7) (by decide) rfl rfl (Nat.le_of_ble_eq_true rfl) hI ?_
  intro p e s m args below meth c R QQ X hR hret ls hl hw
  replace hl : lv_has ls 2 [(0, .ref (ad 0)), (1, iV a1)] := hl
  obtain ⟨H, hH⟩ : ∃ z, z = s.heap := ⟨_, rfl⟩
  obtain ⟨locs, hlo⟩ : ∃ z : List Loc, z = [] := ⟨_, rfl⟩
  rw [← hH, ← hlo]
  replace hw : Wx vwCl G LX ad s H locs σ := by rw [hH, hlo]; exact hw
  clear hH hlo
  refine x_iload_n X dX7_stitches_0 rfl (lv_at hl 1 rfl) ?_
  by_cases hc0 : i32 a1 = 0
  · replace hV := hV.1 hc0
    refine x_tabIn X 0 44 dX7_stitches_1 (hc0) (by decide) (by decide) rfl (by decide) ?_
    refine x_aload_n X dX7_stitches_44 rfl (lv_at hl 0 rfl) ?_
    refine x_getr X hw lx0 cX7 4 (by decide) rfl n_P_stitches_1 n_P_stitches_0 dX7_stitches_45 ?_
    refine x_geti X hw lx16 cX0 0 (by decide) rfl n_P_stitches_3 n_P_stitches_2 dX7_stitches_48 ?_
    exact hret (σ 16 0) σ H locs ls 51 hV hw dX7_stitches_51
  by_cases hc1 : i32 a1 = 1
  · replace hV := hV.2.1 hc1
    refine x_tabIn X 1 52 dX7_stitches_1 (hc1) (by decide) (by decide) rfl (by decide) ?_
    refine x_aload_n X dX7_stitches_52 rfl (lv_at hl 0 rfl) ?_
    refine x_getr X hw lx0 cX7 4 (by decide) rfl n_P_stitches_1 n_P_stitches_0 dX7_stitches_53 ?_
    refine x_geti X hw lx16 cX0 1 (by decide) rfl n_P_stitches_3 n_P_stitches_4 dX7_stitches_56 ?_
    exact hret (σ 16 1) σ H locs ls 59 hV hw dX7_stitches_59
  by_cases hc2 : i32 a1 = 2
  · replace hV := hV.2.2.1 hc2
    refine x_tabIn X 2 60 dX7_stitches_1 (hc2) (by decide) (by decide) rfl (by decide) ?_
    refine x_aload_n X dX7_stitches_60 rfl (lv_at hl 0 rfl) ?_
    refine x_getr X hw lx0 cX7 4 (by decide) rfl n_P_stitches_1 n_P_stitches_0 dX7_stitches_61 ?_
    refine x_cvi X hw [] [] (c_Ground_longestChain l G ad hI σ hV) (cwV 0 X.2.2.2.2 gX7_stitches_X0_longestChain rfl rfl rfl hd_Ground_longestChain ⟨x_fr hR.1 rfl, x_fr hR.2 rfl⟩) lx16 cX0 rfl hl.1 rfl (Nat.le_of_ble_eq_true rfl) dX7_stitches_64 ⟨Nat.zero_le _, Nat.zero_le _⟩ (fun r2 σ1 H locs hV hw => ?_)
    exact hret r2 σ1 H locs ls 67 hV hw dX7_stitches_67
  by_cases hc3 : i32 a1 = 3
  · replace hV := hV.2.2.2.1 hc3
    refine x_tabIn X 3 68 dX7_stitches_1 (hc3) (by decide) (by decide) rfl (by decide) ?_
    refine x_aload_n X dX7_stitches_68 rfl (lv_at hl 0 rfl) ?_
    refine x_getr X hw lx0 cX7 4 (by decide) rfl n_P_stitches_1 n_P_stitches_0 dX7_stitches_69 ?_
    refine x_cvi X hw [] [] (c_Ground_widest l G ad hI σ hV) (cwV 0 X.2.2.2.2 gX7_stitches_X0_widest rfl rfl rfl hd_Ground_widest ⟨x_fr hR.1 rfl, x_fr hR.2 rfl⟩) lx16 cX0 rfl hl.1 rfl (Nat.le_of_ble_eq_true rfl) dX7_stitches_72 ⟨Nat.zero_le _, Nat.zero_le _⟩ (fun r4 σ3 H locs hV hw => ?_)
    exact hret r4 σ3 H locs ls 75 hV hw dX7_stitches_75
  by_cases hc4 : i32 a1 = 4
  · replace hV := hV.2.2.2.2.1 hc4
    refine x_tabIn X 4 76 dX7_stitches_1 (hc4) (by decide) (by decide) rfl (by decide) ?_
    refine x_aload_n X dX7_stitches_76 rfl (lv_at hl 0 rfl) ?_
    refine x_getr X hw lx0 cX7 4 (by decide) rfl n_P_stitches_1 n_P_stitches_0 dX7_stitches_77 ?_
    refine x_aload_n X dX7_stitches_80 rfl (lv_at hl 0 rfl) ?_
    refine x_getl X hw lx0 cX7 9 (by decide) rfl n_P_stitches_1 n_P_stitches_5 dX7_stitches_81 ?_
    refine x_cvi X hw [lV (σ 0 9)] [] (c_Ground_countFree l G ad hI σ (σ 0 9) hV) (cwV 1 X.2.2.2.2 gX7_stitches_X0_countFree rfl rfl rfl hd_Ground_countFree ⟨x_fr hR.1 rfl, x_fr hR.2 rfl⟩) lx16 cX0 rfl hl.1 rfl (Nat.le_of_ble_eq_true rfl) dX7_stitches_84 ⟨Nat.zero_le _, Nat.zero_le _⟩ (fun r6 σ5 H locs hV hw => ?_)
    exact hret r6 σ5 H locs ls 87 hV hw dX7_stitches_87
  by_cases hc5 : i32 a1 = 5
  · replace hV := hV.2.2.2.2.2.1 hc5
    refine x_tabIn X 5 88 dX7_stitches_1 (hc5) (by decide) (by decide) rfl (by decide) ?_
    refine x_aload_n X dX7_stitches_88 rfl (lv_at hl 0 rfl) ?_
    refine x_getr X hw lx0 cX7 0 (by decide) rfl n_P_stitches_1 n_P_stitches_6 dX7_stitches_89 ?_
    refine x_geti X hw lx1 cX2 6 (by decide) rfl n_P_stitches_8 n_P_stitches_7 dX7_stitches_92 ?_
    exact hret (σ 1 6) σ H locs ls 95 hV hw dX7_stitches_95
  by_cases hc6 : i32 a1 = 6
  · replace hV := hV.2.2.2.2.2.2.1 hc6
    refine x_tabIn X 6 96 dX7_stitches_1 (hc6) (by decide) (by decide) rfl (by decide) ?_
    refine x_aload_n X dX7_stitches_96 rfl (lv_at hl 0 rfl) ?_
    refine x_aload_n X dX7_stitches_97 rfl (lv_at hl 0 rfl) ?_
    refine x_getr X hw lx0 cX7 4 (by decide) rfl n_P_stitches_1 n_P_stitches_0 dX7_stitches_98 ?_
    refine x_aload_n X dX7_stitches_101 rfl (lv_at hl 0 rfl) ?_
    refine x_getl X hw lx0 cX7 9 (by decide) rfl n_P_stitches_1 n_P_stitches_5 dX7_stitches_102 ?_
    refine x_cvi X hw [lV (σ 0 9)] [.ref (ad 0)] (c_Ground_leastFree l G ad hI σ (σ 0 9) hV) (cwV 1 X.2.2.2.2 gX7_stitches_X0_leastFree rfl rfl rfl hd_Ground_leastFree ⟨x_fr hR.1 rfl, x_fr hR.2 rfl⟩) lx16 cX0 rfl hl.1 rfl (Nat.le_of_ble_eq_true rfl) dX7_stitches_105 ⟨Nat.zero_le _, Nat.zero_le _⟩ (fun r8 σ7 H locs hV hw => ?_)
    refine x_cvi X hw [iV r8] [] (c_P_noneIfBelow0 l G ad hI σ7 r8 hV) (cwV 1 X.2.2.2.2 gX7_stitches_X7_noneIfBelow0 rfl rfl rfl hd_P_noneIfBelow0 ⟨x_fr hR.1 rfl, x_fr hR.2 rfl⟩) lx0 cX7 rfl hl.1 rfl (Nat.le_of_ble_eq_true rfl) dX7_stitches_108 ⟨Nat.zero_le _, Nat.zero_le _⟩ (fun r10 σ9 H locs hV hw => ?_)
    exact hret r10 σ9 H locs ls 111 hV hw dX7_stitches_111
  have hc : i32 a1 < 0 ∨ 6 < i32 a1 := by omega
  replace hV := hV.2.2.2.2.2.2.2 hc
  refine x_tabOut X 112 dX7_stitches_1 hc (by decide) ?_
  refine x_aload_n X dX7_stitches_112 rfl (lv_at hl 0 rfl) ?_
  refine x_iconst X dX7_stitches_113 ?_
  refine x_cvi X hw [iV 1] [] (c_P_fail l G ad hI σ 1 hV) (cwV 1 X.2.2.2.2 gX7_stitches_X7_fail rfl rfl rfl hd_P_fail ⟨x_fr hR.1 rfl, x_fr hR.2 rfl⟩) lx0 cX7 rfl hl.1 rfl (Nat.le_of_ble_eq_true rfl) dX7_stitches_114 ⟨Nat.zero_le _, Nat.zero_le _⟩ (fun r12 σ11 H locs hV hw => ?_)
  exact hret r12 σ11 H locs ls 117 hV hw dX7_stitches_117

theorem n_P_isStitch_0 : Cond.fieldLink RX7 33 "LacePillow" "ground" "LLacePillow$Ground;" ∈ wsX7_isStitch := by decide +kernel
theorem n_P_isStitch_1 : ∀ w ∈ wsX70, w ∈ wsX7_isStitch := by decide +kernel
theorem n_P_isStitch_2 : Cond.fieldLink RX7 119 "LacePillow$Ground" "size" "I" ∈ wsX7_isStitch := by decide +kernel
theorem n_P_isStitch_3 : ∀ w ∈ wsX00, w ∈ wsX7_isStitch := by decide +kernel
set_option maxHeartbeats 4000000 in
set_option maxRecDepth 100000 in
theorem c_P_isStitch (l : Launch) (G : GT) (ad : Nat → Nat) (hI : Inj LX ad) (σ : St) (a1 : Int) {Q : Int → St → Prop} (hV : V_P_isStitch σ a1 Q) : Met l yX7_isStitch wsX7_isStitch (rmx 0 0) (Pq vwCl G LX ad σ [.ref (ad 0), lV a1]) (Qz vwCl G LX ad Q) 0 0 (Ax LX ad) := by
  unfold V_P_isStitch at hV
  refine x_metz (own := RX7) (by decide) rfl rfl (Nat.le_of_ble_eq_true rfl) hI ?_
  intro p e s m args below meth c R QQ X hR hret ls hl hw
  replace hl : lv_has ls 3 [(0, .ref (ad 0)), (1, lV a1)] := hl
  obtain ⟨H, hH⟩ : ∃ z, z = s.heap := ⟨_, rfl⟩
  obtain ⟨locs, hlo⟩ : ∃ z : List Loc, z = [] := ⟨_, rfl⟩
  rw [← hH, ← hlo]
  replace hw : Wx vwCl G LX ad s H locs σ := by rw [hH, hlo]; exact hw
  clear hH hlo
  refine x_lload_n X dX7_isStitch_0 rfl (lv_at hl 1 rfl) ?_
  refine x_lconst X 0 dX7_isStitch_1 rfl ?_
  refine x_lcmp_lt X rfl k64_0 23 dX7_isStitch_2 dX7_isStitch_3 (by decide) (fun hc => ?_) (fun hc => ?_)
  · replace hV := hV.1 hc
    refine x_iconst X dX7_isStitch_23 ?_
    exact hret 0 σ H locs ls 24 (by decide) hV hw dX7_isStitch_24
  · replace hV := hV.2 hc
    refine x_lload_n X dX7_isStitch_6 rfl (lv_at hl 1 rfl) ?_
    refine x_aload_n X dX7_isStitch_7 rfl (lv_at hl 0 rfl) ?_
    refine x_getr X hw lx0 cX7 4 (by decide) rfl n_P_isStitch_1 n_P_isStitch_0 dX7_isStitch_8 ?_
    refine x_geti X hw lx16 cX0 0 (by decide) rfl n_P_isStitch_3 n_P_isStitch_2 dX7_isStitch_11 ?_
    refine x_i2l X dX7_isStitch_14 ?_
    refine x_lcmp_ge X rfl (i64_i32 _) 23 dX7_isStitch_15 dX7_isStitch_16 (by decide) (fun hc => ?_) (fun hc => ?_)
    · replace hV := hV.1 hc
      refine x_iconst X dX7_isStitch_23 ?_
      exact hret 0 σ H locs ls 24 (by decide) hV hw dX7_isStitch_24
    · replace hV := hV.2 hc
      refine x_iconst X dX7_isStitch_19 ?_
      refine x_goto X 24 dX7_isStitch_20 (by decide) ?_
      exact hret 1 σ H locs ls 24 (by decide) hV hw dX7_isStitch_24

theorem n_P_stitch_0 : Cond.fieldLink RX7 33 "LacePillow" "ground" "LLacePillow$Ground;" ∈ wsX7_stitch := by decide +kernel
theorem n_P_stitch_1 : ∀ w ∈ wsX70, w ∈ wsX7_stitch := by decide +kernel
theorem n_P_stitch_2 : Cond.fieldLink RX7 182 "LacePillow$Ground" "rows" "[I" ∈ wsX7_stitch := by decide +kernel
theorem n_P_stitch_3 : ∀ w ∈ wsX00, w ∈ wsX7_stitch := by decide +kernel
theorem n_P_stitch_4 : Cond.fieldLink RX7 185 "LacePillow$Ground" "gaps" "[I" ∈ wsX7_stitch := by decide +kernel
theorem n_P_stitch_5 : Cond.fieldLink RX7 188 "LacePillow$Ground" "kinds" "[I" ∈ wsX7_stitch := by decide +kernel
theorem n_P_stitch_6 : Cond.fieldLink RX7 191 "LacePillow$Ground" "levels" "[I" ∈ wsX7_stitch := by decide +kernel
theorem n_P_stitch_7 : Cond.fieldLink RX7 194 "LacePillow$Ground" "before" "[J" ∈ wsX7_stitch := by decide +kernel
theorem n_P_stitch_8 : Cond.fieldLink RX7 58 "LacePillow" "workedBits" "J" ∈ wsX7_stitch := by decide +kernel
set_option maxHeartbeats 4000000 in
set_option maxRecDepth 100000 in
theorem c_P_stitch (l : Launch) (G : GT) (ad : Nat → Nat) (hI : Inj LX ad) (σ : St) (a1 : Int) (a2 : Int) {Q : Int → St → Prop} (hV : V_P_stitch σ a1 a2 Q) : Met l yX7_stitch wsX7_stitch (rmx 2 45) (Pq vwCl G LX ad σ [.ref (ad 0), iV a1, iV a2]) (Qi vwCl G LX ad Q) 0 0 (Ax LX ad) := by
  unfold V_P_stitch at hV
  refine x_meti (own := RX7) (by decide) rfl rfl (Nat.le_of_ble_eq_true rfl) hI ?_
  intro p e s m args below meth c R QQ X hR hret ls hl hw
  replace hl : lv_has ls 3 [(0, .ref (ad 0)), (1, iV a1), (2, iV a2)] := hl
  obtain ⟨H, hH⟩ : ∃ z, z = s.heap := ⟨_, rfl⟩
  obtain ⟨locs, hlo⟩ : ∃ z : List Loc, z = [] := ⟨_, rfl⟩
  rw [← hH, ← hlo]
  replace hw : Wx vwCl G LX ad s H locs σ := by rw [hH, hlo]; exact hw
  clear hH hlo
  refine x_aload_n X dX7_stitch_0 rfl (lv_at hl 0 rfl) ?_
  refine x_iload_n X dX7_stitch_1 rfl (lv_at hl 1 rfl) ?_
  refine x_i2l X dX7_stitch_2 ?_
  refine x_cvz X hw [lV (i32 a1)] [] (c_P_isStitch l G ad hI σ (i32 a1) hV) (cwV 1 X.2.2.2.2 gX7_stitch_X7_isStitch rfl rfl rfl hd_P_isStitch ⟨x_fr hR.1 rfl, x_fr hR.2 rfl⟩) lx0 cX7 rfl hl.1 rfl (Nat.le_of_ble_eq_true rfl) dX7_stitch_3 ⟨Nat.zero_le _, Nat.zero_le _⟩ (fun r2 σ1 H locs hr2 hV hw => ?_)
  refine x_if_ne X rfl 15 dX7_stitch_6 (by decide) (fun hc => ?_) (fun hc => ?_)
  · replace hV := hV.1 hc
    refine x_iload_n X dX7_stitch_15 rfl (lv_at hl 2 rfl) ?_
    by_cases hc0 : i32 a2 = 0
    · replace hV := hV.1 hc0
      refine x_tabIn X 0 64 dX7_stitch_16 (hc0) (by decide) (by decide) rfl (by decide) ?_
      refine x_aload_n X dX7_stitch_64 rfl (lv_at hl 0 rfl) ?_
      refine x_getr X hw lx0 cX7 4 (by decide) rfl n_P_stitch_1 n_P_stitch_0 dX7_stitch_65 ?_
      refine x_getr X hw lx16 cX0 2 (by decide) rfl n_P_stitch_3 n_P_stitch_2 dX7_stitch_68 ?_
      refine x_iload_n X dX7_stitch_71 rfl (lv_at hl 1 rfl) ?_
      obtain ⟨hi, hV⟩ := hV
      refine x_iald X hw lx17 rfl rfl hi dX7_stitch_72 ?_
      exact hret (σ1 17 (i32 a1)) σ1 H locs ls 73 hV hw dX7_stitch_73
    by_cases hc1 : i32 a2 = 1
    · replace hV := hV.2.1 hc1
      refine x_tabIn X 1 74 dX7_stitch_16 (hc1) (by decide) (by decide) rfl (by decide) ?_
      refine x_aload_n X dX7_stitch_74 rfl (lv_at hl 0 rfl) ?_
      refine x_getr X hw lx0 cX7 4 (by decide) rfl n_P_stitch_1 n_P_stitch_0 dX7_stitch_75 ?_
      refine x_getr X hw lx16 cX0 3 (by decide) rfl n_P_stitch_3 n_P_stitch_4 dX7_stitch_78 ?_
      refine x_iload_n X dX7_stitch_81 rfl (lv_at hl 1 rfl) ?_
      obtain ⟨hi, hV⟩ := hV
      refine x_iald X hw lx18 rfl rfl hi dX7_stitch_82 ?_
      exact hret (σ1 18 (i32 a1)) σ1 H locs ls 83 hV hw dX7_stitch_83
    by_cases hc2 : i32 a2 = 2
    · replace hV := hV.2.2.1 hc2
      refine x_tabIn X 2 84 dX7_stitch_16 (hc2) (by decide) (by decide) rfl (by decide) ?_
      refine x_aload_n X dX7_stitch_84 rfl (lv_at hl 0 rfl) ?_
      refine x_getr X hw lx0 cX7 4 (by decide) rfl n_P_stitch_1 n_P_stitch_0 dX7_stitch_85 ?_
      refine x_getr X hw lx16 cX0 4 (by decide) rfl n_P_stitch_3 n_P_stitch_5 dX7_stitch_88 ?_
      refine x_iload_n X dX7_stitch_91 rfl (lv_at hl 1 rfl) ?_
      obtain ⟨hi, hV⟩ := hV
      refine x_iald X hw lx19 rfl rfl hi dX7_stitch_92 ?_
      exact hret (σ1 19 (i32 a1)) σ1 H locs ls 93 hV hw dX7_stitch_93
    by_cases hc3 : i32 a2 = 3
    · replace hV := hV.2.2.2.1 hc3
      refine x_tabIn X 3 94 dX7_stitch_16 (hc3) (by decide) (by decide) rfl (by decide) ?_
      refine x_aload_n X dX7_stitch_94 rfl (lv_at hl 0 rfl) ?_
      refine x_getr X hw lx0 cX7 4 (by decide) rfl n_P_stitch_1 n_P_stitch_0 dX7_stitch_95 ?_
      refine x_getr X hw lx16 cX0 5 (by decide) rfl n_P_stitch_3 n_P_stitch_6 dX7_stitch_98 ?_
      refine x_iload_n X dX7_stitch_101 rfl (lv_at hl 1 rfl) ?_
      obtain ⟨hi, hV⟩ := hV
      refine x_iald X hw lx20 rfl rfl hi dX7_stitch_102 ?_
      exact hret (σ1 20 (i32 a1)) σ1 H locs ls 103 hV hw dX7_stitch_103
    by_cases hc4 : i32 a2 = 4
    · replace hV := hV.2.2.2.2.1 hc4
      refine x_tabIn X 4 104 dX7_stitch_16 (hc4) (by decide) (by decide) rfl (by decide) ?_
      refine x_aload_n X dX7_stitch_104 rfl (lv_at hl 0 rfl) ?_
      refine x_getr X hw lx0 cX7 4 (by decide) rfl n_P_stitch_1 n_P_stitch_0 dX7_stitch_105 ?_
      refine x_getr X hw lx16 cX0 6 (by decide) rfl n_P_stitch_3 n_P_stitch_7 dX7_stitch_108 ?_
      refine x_iload_n X dX7_stitch_111 rfl (lv_at hl 1 rfl) ?_
      obtain ⟨hi, hV⟩ := hV
      refine x_lald X hw lx21 rfl rfl hi dX7_stitch_112 ?_
      refine x_csi X hw [lV (σ1 21 (i32 a1))] [] (c_bitCount l G ad hI σ1 (σ1 21 (i32 a1)) hV) (va_cwS 1 X.2.2.2.2 gX7_stitch_J13_bitCount_95d88 rfl rfl rfl hd_bitCount ⟨x_fr hR.1 rfl, x_fr hR.2 rfl⟩) rfl hl.1 rfl (Nat.le_of_ble_eq_true rfl) dX7_stitch_113 ⟨Nat.zero_le _, Nat.zero_le _⟩ (fun r4 σ3 H locs hV hw => ?_)
      exact hret r4 σ3 H locs ls 116 hV hw dX7_stitch_116
    by_cases hc5 : i32 a2 = 5
    · replace hV := hV.2.2.2.2.2.1 hc5
      refine x_tabIn X 5 117 dX7_stitch_16 (hc5) (by decide) (by decide) rfl (by decide) ?_
      refine x_aload_n X dX7_stitch_117 rfl (lv_at hl 0 rfl) ?_
      refine x_getr X hw lx0 cX7 4 (by decide) rfl n_P_stitch_1 n_P_stitch_0 dX7_stitch_118 ?_
      refine x_iload_n X dX7_stitch_121 rfl (lv_at hl 1 rfl) ?_
      refine x_cvi X hw [iV a1] [] (c_Ground_countBehind l G ad hI σ1 a1 hV) (cwV 1 X.2.2.2.2 gX7_stitch_X0_countBehind rfl rfl rfl hd_Ground_countBehind ⟨x_fr hR.1 rfl, x_fr hR.2 rfl⟩) lx16 cX0 rfl hl.1 rfl (Nat.le_of_ble_eq_true rfl) dX7_stitch_122 ⟨Nat.zero_le _, Nat.zero_le _⟩ (fun r6 σ5 H locs hV hw => ?_)
      exact hret r6 σ5 H locs ls 125 hV hw dX7_stitch_125
    by_cases hc6 : i32 a2 = 6
    · replace hV := hV.2.2.2.2.2.2.1 hc6
      refine x_tabIn X 6 126 dX7_stitch_16 (hc6) (by decide) (by decide) rfl (by decide) ?_
      refine x_aload_n X dX7_stitch_126 rfl (lv_at hl 0 rfl) ?_
      refine x_getl X hw lx0 cX7 9 (by decide) rfl n_P_stitch_1 n_P_stitch_8 dX7_stitch_127 ?_
      refine x_iload_n X dX7_stitch_130 rfl (lv_at hl 1 rfl) ?_
      refine x_lshr X dX7_stitch_131 ?_
      refine x_lconst X 1 dX7_stitch_132 rfl ?_
      refine x_land X dX7_stitch_133 ?_
      refine x_lconst X 1 dX7_stitch_134 rfl ?_
      refine x_lcmp_ne X rfl k64_1 143 dX7_stitch_135 dX7_stitch_136 (by decide) (fun hc => ?_) (fun hc => ?_)
      · replace hV := hV.1 hc
        refine x_iconst X dX7_stitch_143 ?_
        exact hret 0 σ1 H locs ls 144 hV hw dX7_stitch_144
      · replace hV := hV.2 hc
        refine x_iconst X dX7_stitch_139 ?_
        refine x_goto X 144 dX7_stitch_140 (by decide) ?_
        exact hret 1 σ1 H locs ls 144 hV hw dX7_stitch_144
    by_cases hc7 : i32 a2 = 7
    · replace hV := hV.2.2.2.2.2.2.2.1 hc7
      refine x_tabIn X 7 145 dX7_stitch_16 (hc7) (by decide) (by decide) rfl (by decide) ?_
      refine x_aload_n X dX7_stitch_145 rfl (lv_at hl 0 rfl) ?_
      refine x_getr X hw lx0 cX7 4 (by decide) rfl n_P_stitch_1 n_P_stitch_0 dX7_stitch_146 ?_
      refine x_iload_n X dX7_stitch_149 rfl (lv_at hl 1 rfl) ?_
      refine x_aload_n X dX7_stitch_150 rfl (lv_at hl 0 rfl) ?_
      refine x_getl X hw lx0 cX7 9 (by decide) rfl n_P_stitch_1 n_P_stitch_8 dX7_stitch_151 ?_
      refine x_cvz X hw [iV a1, lV (σ1 0 9)] [] (c_Ground_isFree l G ad hI σ1 a1 (σ1 0 9) hV) (cwV 2 X.2.2.2.2 gX7_stitch_X0_isFree rfl rfl rfl hd_Ground_isFree ⟨x_fr hR.1 rfl, x_fr hR.2 rfl⟩) lx16 cX0 rfl hl.1 rfl (Nat.le_of_ble_eq_true rfl) dX7_stitch_154 ⟨Nat.zero_le _, Nat.zero_le _⟩ (fun r8 σ7 H locs hr8 hV hw => ?_)
      refine x_if_eq X rfl 164 dX7_stitch_157 (by decide) (fun hc => ?_) (fun hc => ?_)
      · replace hV := hV.1 hc
        refine x_iconst X dX7_stitch_164 ?_
        exact hret 0 σ7 H locs ls 165 hV hw dX7_stitch_165
      · replace hV := hV.2 hc
        refine x_iconst X dX7_stitch_160 ?_
        refine x_goto X 165 dX7_stitch_161 (by decide) ?_
        exact hret 1 σ7 H locs ls 165 hV hw dX7_stitch_165
    have hc : i32 a2 < 0 ∨ 7 < i32 a2 := by omega
    replace hV := hV.2.2.2.2.2.2.2.2 hc
    refine x_tabOut X 166 dX7_stitch_16 hc (by decide) ?_
    refine x_aload_n X dX7_stitch_166 rfl (lv_at hl 0 rfl) ?_
    refine x_iconst X dX7_stitch_167 ?_
    refine x_cvi X hw [iV 1] [] (c_P_fail l G ad hI σ1 1 hV) (cwV 1 X.2.2.2.2 gX7_stitch_X7_fail rfl rfl rfl hd_P_fail ⟨x_fr hR.1 rfl, x_fr hR.2 rfl⟩) lx0 cX7 rfl hl.1 rfl (Nat.le_of_ble_eq_true rfl) dX7_stitch_168 ⟨Nat.zero_le _, Nat.zero_le _⟩ (fun r10 σ9 H locs hV hw => ?_)
    exact hret r10 σ9 H locs ls 171 hV hw dX7_stitch_171
  · replace hV := hV.2 hc
    refine x_aload_n X dX7_stitch_9 rfl (lv_at hl 0 rfl) ?_
    refine x_iconst X dX7_stitch_10 ?_
    refine x_cvi X hw [iV 1] [] (c_P_fail l G ad hI σ1 1 hV) (cwV 1 X.2.2.2.2 gX7_stitch_X7_fail rfl rfl rfl hd_P_fail ⟨x_fr hR.1 rfl, x_fr hR.2 rfl⟩) lx0 cX7 rfl hl.1 rfl (Nat.le_of_ble_eq_true rfl) dX7_stitch_11 ⟨Nat.zero_le _, Nat.zero_le _⟩ (fun r12 σ11 H locs hV hw => ?_)
    exact hret r12 σ11 H locs ls 14 hV hw dX7_stitch_14

theorem n_P_ahead_0 : Cond.fieldLink RX7 33 "LacePillow" "ground" "LLacePillow$Ground;" ∈ wsX7_ahead := by decide +kernel
theorem n_P_ahead_1 : ∀ w ∈ wsX70, w ∈ wsX7_ahead := by decide +kernel
set_option maxHeartbeats 4000000 in
set_option maxRecDepth 100000 in
theorem c_P_ahead (l : Launch) (G : GT) (ad : Nat → Nat) (hI : Inj LX ad) (σ : St) (a1 : Int) (a2 : Int) {Q : Int → St → Prop} (hV : V_P_ahead σ a1 a2 Q) : Met l yX7_ahead wsX7_ahead (rmx 1 22) (Pq vwCl G LX ad σ [.ref (ad 0), iV a1, iV a2]) (Qi vwCl G LX ad Q) 0 0 (Ax LX ad) := by
  unfold V_P_ahead at hV
  refine x_meti (own := RX7) (by decide) rfl rfl (Nat.le_of_ble_eq_true rfl) hI ?_
  intro p e s m args below meth c R QQ X hR hret ls hl hw
  replace hl : lv_has ls 3 [(0, .ref (ad 0)), (1, iV a1), (2, iV a2)] := hl
  obtain ⟨H, hH⟩ : ∃ z, z = s.heap := ⟨_, rfl⟩
  obtain ⟨locs, hlo⟩ : ∃ z : List Loc, z = [] := ⟨_, rfl⟩
  rw [← hH, ← hlo]
  replace hw : Wx vwCl G LX ad s H locs σ := by rw [hH, hlo]; exact hw
  clear hH hlo
  refine x_aload_n X dX7_ahead_0 rfl (lv_at hl 0 rfl) ?_
  refine x_iload_n X dX7_ahead_1 rfl (lv_at hl 1 rfl) ?_
  refine x_i2l X dX7_ahead_2 ?_
  refine x_cvz X hw [lV (i32 a1)] [] (c_P_isStitch l G ad hI σ (i32 a1) hV) (cwV 1 X.2.2.2.2 gX7_ahead_X7_isStitch rfl rfl rfl hd_P_isStitch ⟨x_fr hR.1 rfl, x_fr hR.2 rfl⟩) lx0 cX7 rfl hl.1 rfl (Nat.le_of_ble_eq_true rfl) dX7_ahead_3 ⟨Nat.zero_le _, Nat.zero_le _⟩ (fun r2 σ1 H locs hr2 hV hw => ?_)
  refine x_if_eq X rfl 18 dX7_ahead_6 (by decide) (fun hc => ?_) (fun hc => ?_)
  · replace hV := hV.1 hc
    refine x_aload_n X dX7_ahead_18 rfl (lv_at hl 0 rfl) ?_
    refine x_iconst X dX7_ahead_19 ?_
    refine x_cvi X hw [iV 1] [] (c_P_fail l G ad hI σ1 1 hV) (cwV 1 X.2.2.2.2 gX7_ahead_X7_fail rfl rfl rfl hd_P_fail ⟨x_fr hR.1 rfl, x_fr hR.2 rfl⟩) lx0 cX7 rfl hl.1 rfl (Nat.le_of_ble_eq_true rfl) dX7_ahead_20 ⟨Nat.zero_le _, Nat.zero_le _⟩ (fun r4 σ3 H locs hV hw => ?_)
    exact hret r4 σ3 H locs ls 23 hV hw dX7_ahead_23
  · replace hV := hV.2 hc
    refine x_aload_n X dX7_ahead_9 rfl (lv_at hl 0 rfl) ?_
    refine x_iload_n X dX7_ahead_10 rfl (lv_at hl 2 rfl) ?_
    refine x_i2l X dX7_ahead_11 ?_
    refine x_cvz X hw [lV (i32 a2)] [] (c_P_isStitch l G ad hI σ1 (i32 a2) hV) (cwV 1 X.2.2.2.2 gX7_ahead_X7_isStitch rfl rfl rfl hd_P_isStitch ⟨x_fr hR.1 rfl, x_fr hR.2 rfl⟩) lx0 cX7 rfl hl.1 rfl (Nat.le_of_ble_eq_true rfl) dX7_ahead_12 ⟨Nat.zero_le _, Nat.zero_le _⟩ (fun r6 σ5 H locs hr6 hV hw => ?_)
    refine x_if_ne X rfl 24 dX7_ahead_15 (by decide) (fun hc => ?_) (fun hc => ?_)
    · replace hV := hV.1 hc
      refine x_aload_n X dX7_ahead_24 rfl (lv_at hl 0 rfl) ?_
      refine x_getr X hw lx0 cX7 4 (by decide) rfl n_P_ahead_1 n_P_ahead_0 dX7_ahead_25 ?_
      refine x_iload_n X dX7_ahead_28 rfl (lv_at hl 1 rfl) ?_
      refine x_iload_n X dX7_ahead_29 rfl (lv_at hl 2 rfl) ?_
      refine x_cvz X hw [iV a1, iV a2] [] (c_Ground_leads l G ad hI σ5 a1 a2 hV) (cwV 2 X.2.2.2.2 gX7_ahead_X0_leads rfl rfl rfl hd_Ground_leads ⟨x_fr hR.1 rfl, x_fr hR.2 rfl⟩) lx16 cX0 rfl hl.1 rfl (Nat.le_of_ble_eq_true rfl) dX7_ahead_30 ⟨Nat.zero_le _, Nat.zero_le _⟩ (fun r8 σ7 H locs hr8 hV hw => ?_)
      refine x_if_eq X rfl 40 dX7_ahead_33 (by decide) (fun hc => ?_) (fun hc => ?_)
      · replace hV := hV.1 hc
        refine x_iconst X dX7_ahead_40 ?_
        exact hret 0 σ7 H locs ls 41 hV hw dX7_ahead_41
      · replace hV := hV.2 hc
        refine x_iconst X dX7_ahead_36 ?_
        refine x_goto X 41 dX7_ahead_37 (by decide) ?_
        exact hret 1 σ7 H locs ls 41 hV hw dX7_ahead_41
    · replace hV := hV.2 hc
      refine x_aload_n X dX7_ahead_18 rfl (lv_at hl 0 rfl) ?_
      refine x_iconst X dX7_ahead_19 ?_
      refine x_cvi X hw [iV 1] [] (c_P_fail l G ad hI σ5 1 hV) (cwV 1 X.2.2.2.2 gX7_ahead_X7_fail rfl rfl rfl hd_P_fail ⟨x_fr hR.1 rfl, x_fr hR.2 rfl⟩) lx0 cX7 rfl hl.1 rfl (Nat.le_of_ble_eq_true rfl) dX7_ahead_20 ⟨Nat.zero_le _, Nat.zero_le _⟩ (fun r10 σ9 H locs hV hw => ?_)
      exact hret r10 σ9 H locs ls 23 hV hw dX7_ahead_23

theorem n_P_failLong_0 : Cond.fieldLink RX7 75 "LacePillow" "errors" "[I" ∈ wsX7_failLong := by decide +kernel
theorem n_P_failLong_1 : ∀ w ∈ wsX70, w ∈ wsX7_failLong := by decide +kernel
theorem n_P_failLong_2 : Cond.constantLong RX7 344 (-9000000000000000000) ∈ wsX7_failLong := by decide +kernel
set_option maxHeartbeats 4000000 in
set_option maxRecDepth 100000 in
theorem c_P_failLong (l : Launch) (G : GT) (ad : Nat → Nat) (hI : Inj LX ad) (σ : St) (a1 : Int) {Q : Int → St → Prop} (hV : V_P_failLong σ a1 Q) : Met l yX7_failLong wsX7_failLong (rmx 0 0) (Pq vwCl G LX ad σ [.ref (ad 0), iV a1]) (Ql vwCl G LX ad Q) 0 0 (Ax LX ad) := by
  unfold V_P_failLong at hV
  refine x_metl (own := RX7) (by decide) rfl rfl (Nat.le_of_ble_eq_true rfl) hI ?_
  intro p e s m args below meth c R QQ X hR hret ls hl hw
  replace hl : lv_has ls 2 [(0, .ref (ad 0)), (1, iV a1)] := hl
  obtain ⟨H, hH⟩ : ∃ z, z = s.heap := ⟨_, rfl⟩
  obtain ⟨locs, hlo⟩ : ∃ z : List Loc, z = [] := ⟨_, rfl⟩
  rw [← hH, ← hlo]
  replace hw : Wx vwCl G LX ad s H locs σ := by rw [hH, hlo]; exact hw
  clear hH hlo
  refine x_aload_n X dX7_failLong_0 rfl (lv_at hl 0 rfl) ?_
  refine x_getr X hw lx0 cX7 12 (by decide) rfl n_P_failLong_1 n_P_failLong_0 dX7_failLong_1 ?_
  refine x_iload_n X dX7_failLong_4 rfl (lv_at hl 1 rfl) ?_
  refine x_dup2 X dX7_failLong_5 rfl rfl ?_
  obtain ⟨hi, hV⟩ := hV
  refine x_iald X hw lx56 rfl rfl hi dX7_failLong_6 ?_
  refine x_iconst X dX7_failLong_7 ?_
  refine x_iadd X dX7_failLong_8 ?_
  obtain ⟨hi, hV⟩ := hV
  refine x_iast X hw lx56 rfl rfl hi dX7_failLong_9 (fun H locs σ1 hs hw => ?_)
  replace hV := hV σ1 hs
  refine x_ldc2 X (-9000000000000000000) n_P_failLong_2 (by decide) dX7_failLong_10 ?_
  refine x_iload_n X dX7_failLong_13 rfl (lv_at hl 1 rfl) ?_
  refine x_i2l X dX7_failLong_14 ?_
  refine x_lsub X dX7_failLong_15 ?_
  exact hret ((-9000000000000000000) - (i32 a1)) σ1 H locs ls 16 hV hw dX7_failLong_16

theorem n_P_orders_0 : Cond.fieldLink RX7 33 "LacePillow" "ground" "LLacePillow$Ground;" ∈ wsX7_orders := by decide +kernel
theorem n_P_orders_1 : ∀ w ∈ wsX70, w ∈ wsX7_orders := by decide +kernel
theorem n_P_orders_2 : Cond.fieldLink RX7 119 "LacePillow$Ground" "size" "I" ∈ wsX7_orders := by decide +kernel
theorem n_P_orders_3 : ∀ w ∈ wsX00, w ∈ wsX7_orders := by decide +kernel
theorem n_P_orders_4 : Cond.fieldLink RX7 40 "LacePillow" "ways" "LLacePillow$Ways;" ∈ wsX7_orders := by decide +kernel
theorem n_P_orders_5 : Cond.fieldLink RX7 221 "LacePillow$Ways" "counts" "[J" ∈ wsX7_orders := by decide +kernel
theorem n_P_orders_6 : ∀ w ∈ wsX50, w ∈ wsX7_orders := by decide +kernel
set_option maxHeartbeats 4000000 in
set_option maxRecDepth 100000 in
theorem c_P_orders (l : Launch) (G : GT) (ad : Nat → Nat) (hI : Inj LX ad) (σ : St) {Q : Int → St → Prop} (hV : V_P_orders σ Q) : Met l yX7_orders wsX7_orders (rmx 4 102) (Pq vwCl G LX ad σ [.ref (ad 0)]) (Ql vwCl G LX ad Q) 0 0 (Ax LX ad) := by
  unfold V_P_orders at hV
  refine x_metl (own := RX7) (by decide) rfl rfl (Nat.le_of_ble_eq_true rfl) hI ?_
  intro p e s m args below meth c R QQ X hR hret ls hl hw
  replace hl : lv_has ls 1 [(0, .ref (ad 0))] := hl
  obtain ⟨H, hH⟩ : ∃ z, z = s.heap := ⟨_, rfl⟩
  obtain ⟨locs, hlo⟩ : ∃ z : List Loc, z = [] := ⟨_, rfl⟩
  rw [← hH, ← hlo]
  replace hw : Wx vwCl G LX ad s H locs σ := by rw [hH, hlo]; exact hw
  clear hH hlo
  refine x_aload_n X dX7_orders_0 rfl (lv_at hl 0 rfl) ?_
  refine x_getr X hw lx0 cX7 4 (by decide) rfl n_P_orders_1 n_P_orders_0 dX7_orders_1 ?_
  refine x_geti X hw lx16 cX0 0 (by decide) rfl n_P_orders_3 n_P_orders_2 dX7_orders_4 ?_
  refine x_bipush X dX7_orders_7 (by decide) ?_
  refine x_icmp_le X rfl k32_20 18 dX7_orders_9 (by decide) (fun hc => ?_) (fun hc => ?_)
  · replace hV := hV.1 hc
    refine x_aload_n X dX7_orders_18 rfl (lv_at hl 0 rfl) ?_
    refine x_getr X hw lx0 cX7 5 (by decide) rfl n_P_orders_1 n_P_orders_4 dX7_orders_19 ?_
    refine x_aload_n X dX7_orders_22 rfl (lv_at hl 0 rfl) ?_
    refine x_getr X hw lx0 cX7 4 (by decide) rfl n_P_orders_1 n_P_orders_0 dX7_orders_23 ?_
    refine x_cvv X hw [.ref (ad 16)] [] (c_Ways_reckon l G ad hI σ hV) (cwV 1 X.2.2.2.2 gX7_orders_X5_reckon rfl rfl rfl hd_Ways_reckon ⟨x_fr hR.1 rfl, x_fr hR.2 rfl⟩) lx23 cX5 rfl hl.1 rfl (Nat.le_of_ble_eq_true rfl) dX7_orders_26 ⟨Nat.zero_le _, Nat.zero_le _⟩ (fun σ1 H locs hV hw => ?_)
    refine x_aload_n X dX7_orders_29 rfl (lv_at hl 0 rfl) ?_
    refine x_getr X hw lx0 cX7 5 (by decide) rfl n_P_orders_1 n_P_orders_4 dX7_orders_30 ?_
    refine x_getr X hw lx23 cX5 1 (by decide) rfl n_P_orders_6 n_P_orders_5 dX7_orders_33 ?_
    refine x_iconst X dX7_orders_36 ?_
    refine x_lald X hw lx24 k32_0 rfl (show (0 : Int) ≤ 0 ∧ (0 : Int) < 1296 by decide) dX7_orders_37 ?_
    exact hret (σ1 24 0) σ1 H locs ls 38 hV hw dX7_orders_38
  · replace hV := hV.2 hc
    refine x_aload_n X dX7_orders_12 rfl (lv_at hl 0 rfl) ?_
    refine x_iconst X dX7_orders_13 ?_
    refine x_cvl X hw [iV 4] [] (c_P_failLong l G ad hI σ 4 hV) (cwV 1 X.2.2.2.2 gX7_orders_X7_failLong rfl rfl rfl hd_P_failLong ⟨x_fr hR.1 rfl, x_fr hR.2 rfl⟩) lx0 cX7 rfl hl.1 rfl (Nat.le_of_ble_eq_true rfl) dX7_orders_14 ⟨Nat.zero_le _, Nat.zero_le _⟩ (fun r3 σ2 H locs hV hw => ?_)
    exact hret r3 σ2 H locs ls 17 hV hw dX7_orders_17

theorem n_P_order_0 : Cond.fieldLink RX7 33 "LacePillow" "ground" "LLacePillow$Ground;" ∈ wsX7_order := by decide +kernel
theorem n_P_order_1 : ∀ w ∈ wsX70, w ∈ wsX7_order := by decide +kernel
theorem n_P_order_2 : Cond.fieldLink RX7 119 "LacePillow$Ground" "size" "I" ∈ wsX7_order := by decide +kernel
theorem n_P_order_3 : ∀ w ∈ wsX00, w ∈ wsX7_order := by decide +kernel
theorem n_P_order_4 : Cond.fieldLink RX7 40 "LacePillow" "ways" "LLacePillow$Ways;" ∈ wsX7_order := by decide +kernel
theorem n_P_order_5 : Cond.fieldLink RX7 221 "LacePillow$Ways" "counts" "[J" ∈ wsX7_order := by decide +kernel
theorem n_P_order_6 : ∀ w ∈ wsX50, w ∈ wsX7_order := by decide +kernel
set_option maxHeartbeats 4000000 in
set_option maxRecDepth 100000 in
theorem c_P_order (l : Launch) (G : GT) (ad : Nat → Nat) (hI : Inj LX ad) (σ : St) (a1 : Int) (a2 : Int) {Q : Int → St → Prop} (hV : V_P_order σ a1 a2 Q) : Met l yX7_order wsX7_order (rmx 4 102) (Pq vwCl G LX ad σ [.ref (ad 0), lV a1, iV a2]) (Qi vwCl G LX ad Q) 0 0 (Ax LX ad) := by
  unfold V_P_order at hV
  refine x_meti (own := RX7) (by decide) rfl rfl (Nat.le_of_ble_eq_true rfl) hI ?_
  intro p e s m args below meth c R QQ X hR hret ls hl hw
  replace hl : lv_has ls 4 [(0, .ref (ad 0)), (1, lV a1), (3, iV a2)] := hl
  obtain ⟨H, hH⟩ : ∃ z, z = s.heap := ⟨_, rfl⟩
  obtain ⟨locs, hlo⟩ : ∃ z : List Loc, z = [] := ⟨_, rfl⟩
  rw [← hH, ← hlo]
  replace hw : Wx vwCl G LX ad s H locs σ := by rw [hH, hlo]; exact hw
  clear hH hlo
  refine x_aload_n X dX7_order_0 rfl (lv_at hl 0 rfl) ?_
  refine x_iload_n X dX7_order_1 rfl (lv_at hl 2 rfl) ?_
  refine x_i2l X dX7_order_2 ?_
  refine x_cvz X hw [lV (i32 a2)] [] (c_P_isStitch l G ad hI σ (i32 a2) hV) (cwV 1 X.2.2.2.2 gX7_order_X7_isStitch rfl rfl rfl hd_P_isStitch ⟨x_fr hR.1 rfl, x_fr hR.2 rfl⟩) lx0 cX7 rfl hl.1 rfl (Nat.le_of_ble_eq_true rfl) dX7_order_3 ⟨Nat.zero_le _, Nat.zero_le _⟩ (fun r2 σ1 H locs hr2 hV hw => ?_)
  refine x_if_ne X rfl 15 dX7_order_6 (by decide) (fun hc => ?_) (fun hc => ?_)
  · replace hV := hV.1 hc
    refine x_aload_n X dX7_order_15 rfl (lv_at hl 0 rfl) ?_
    refine x_getr X hw lx0 cX7 4 (by decide) rfl n_P_order_1 n_P_order_0 dX7_order_16 ?_
    refine x_geti X hw lx16 cX0 0 (by decide) rfl n_P_order_3 n_P_order_2 dX7_order_19 ?_
    refine x_bipush X dX7_order_22 (by decide) ?_
    refine x_icmp_le X rfl k32_20 33 dX7_order_24 (by decide) (fun hc => ?_) (fun hc => ?_)
    · replace hV := hV.1 hc
      refine x_aload_n X dX7_order_33 rfl (lv_at hl 0 rfl) ?_
      refine x_getr X hw lx0 cX7 5 (by decide) rfl n_P_order_1 n_P_order_4 dX7_order_34 ?_
      refine x_aload_n X dX7_order_37 rfl (lv_at hl 0 rfl) ?_
      refine x_getr X hw lx0 cX7 4 (by decide) rfl n_P_order_1 n_P_order_0 dX7_order_38 ?_
      refine x_cvv X hw [.ref (ad 16)] [] (c_Ways_reckon l G ad hI σ1 hV) (cwV 1 X.2.2.2.2 gX7_order_X5_reckon rfl rfl rfl hd_Ways_reckon ⟨x_fr hR.1 rfl, x_fr hR.2 rfl⟩) lx23 cX5 rfl hl.1 rfl (Nat.le_of_ble_eq_true rfl) dX7_order_41 ⟨Nat.zero_le _, Nat.zero_le _⟩ (fun σ3 H locs hV hw => ?_)
      refine x_lload_n X dX7_order_44 rfl (lv_at hl 1 rfl) ?_
      refine x_lconst X 0 dX7_order_45 rfl ?_
      refine x_lcmp_lt X rfl k64_0 64 dX7_order_46 dX7_order_47 (by decide) (fun hc => ?_) (fun hc => ?_)
      · replace hV := hV.1 hc
        refine x_aload_n X dX7_order_64 rfl (lv_at hl 0 rfl) ?_
        refine x_iconst X dX7_order_65 ?_
        refine x_cvi X hw [iV 2] [] (c_P_fail l G ad hI σ3 2 hV) (cwV 1 X.2.2.2.2 gX7_order_X7_fail rfl rfl rfl hd_P_fail ⟨x_fr hR.1 rfl, x_fr hR.2 rfl⟩) lx0 cX7 rfl hl.1 rfl (Nat.le_of_ble_eq_true rfl) dX7_order_66 ⟨Nat.zero_le _, Nat.zero_le _⟩ (fun r5 σ4 H locs hV hw => ?_)
        exact hret r5 σ4 H locs ls 69 hV hw dX7_order_69
      · replace hV := hV.2 hc
        refine x_lload_n X dX7_order_50 rfl (lv_at hl 1 rfl) ?_
        refine x_aload_n X dX7_order_51 rfl (lv_at hl 0 rfl) ?_
        refine x_getr X hw lx0 cX7 5 (by decide) rfl n_P_order_1 n_P_order_4 dX7_order_52 ?_
        refine x_getr X hw lx23 cX5 1 (by decide) rfl n_P_order_6 n_P_order_5 dX7_order_55 ?_
        refine x_iconst X dX7_order_58 ?_
        refine x_lald X hw lx24 k32_0 rfl (show (0 : Int) ≤ 0 ∧ (0 : Int) < 1296 by decide) dX7_order_59 ?_
        refine x_lcmp_lt X rfl rfl 70 dX7_order_60 dX7_order_61 (by decide) (fun hc => ?_) (fun hc => ?_)
        · replace hV := hV.1 hc
          refine x_aload_n X dX7_order_70 rfl (lv_at hl 0 rfl) ?_
          refine x_getr X hw lx0 cX7 5 (by decide) rfl n_P_order_1 n_P_order_4 dX7_order_71 ?_
          refine x_aload_n X dX7_order_74 rfl (lv_at hl 0 rfl) ?_
          refine x_getr X hw lx0 cX7 4 (by decide) rfl n_P_order_1 n_P_order_0 dX7_order_75 ?_
          refine x_lload_n X dX7_order_78 rfl (lv_at hl 1 rfl) ?_
          refine x_iload_n X dX7_order_79 rfl (lv_at hl 2 rfl) ?_
          refine x_cvi X hw [.ref (ad 16), lV a1, iV a2] [] (c_Ways_stitchOf l G ad hI σ3 a1 a2 hV) (cwV 3 X.2.2.2.2 gX7_order_X5_stitchOf rfl rfl rfl hd_Ways_stitchOf ⟨x_fr hR.1 rfl, x_fr hR.2 rfl⟩) lx23 cX5 rfl hl.1 rfl (Nat.le_of_ble_eq_true rfl) dX7_order_80 ⟨Nat.zero_le _, Nat.zero_le _⟩ (fun r7 σ6 H locs hV hw => ?_)
          exact hret r7 σ6 H locs ls 83 hV hw dX7_order_83
        · replace hV := hV.2 hc
          refine x_aload_n X dX7_order_64 rfl (lv_at hl 0 rfl) ?_
          refine x_iconst X dX7_order_65 ?_
          refine x_cvi X hw [iV 2] [] (c_P_fail l G ad hI σ3 2 hV) (cwV 1 X.2.2.2.2 gX7_order_X7_fail rfl rfl rfl hd_P_fail ⟨x_fr hR.1 rfl, x_fr hR.2 rfl⟩) lx0 cX7 rfl hl.1 rfl (Nat.le_of_ble_eq_true rfl) dX7_order_66 ⟨Nat.zero_le _, Nat.zero_le _⟩ (fun r9 σ8 H locs hV hw => ?_)
          exact hret r9 σ8 H locs ls 69 hV hw dX7_order_69
    · replace hV := hV.2 hc
      refine x_aload_n X dX7_order_27 rfl (lv_at hl 0 rfl) ?_
      refine x_iconst X dX7_order_28 ?_
      refine x_cvi X hw [iV 4] [] (c_P_fail l G ad hI σ1 4 hV) (cwV 1 X.2.2.2.2 gX7_order_X7_fail rfl rfl rfl hd_P_fail ⟨x_fr hR.1 rfl, x_fr hR.2 rfl⟩) lx0 cX7 rfl hl.1 rfl (Nat.le_of_ble_eq_true rfl) dX7_order_29 ⟨Nat.zero_le _, Nat.zero_le _⟩ (fun r11 σ10 H locs hV hw => ?_)
      exact hret r11 σ10 H locs ls 32 hV hw dX7_order_32
  · replace hV := hV.2 hc
    refine x_aload_n X dX7_order_9 rfl (lv_at hl 0 rfl) ?_
    refine x_iconst X dX7_order_10 ?_
    refine x_cvi X hw [iV 1] [] (c_P_fail l G ad hI σ1 1 hV) (cwV 1 X.2.2.2.2 gX7_order_X7_fail rfl rfl rfl hd_P_fail ⟨x_fr hR.1 rfl, x_fr hR.2 rfl⟩) lx0 cX7 rfl hl.1 rfl (Nat.le_of_ble_eq_true rfl) dX7_order_11 ⟨Nat.zero_le _, Nat.zero_le _⟩ (fun r13 σ12 H locs hV hw => ?_)
    exact hret r13 σ12 H locs ls 14 hV hw dX7_order_14

set_option maxHeartbeats 4000000 in
set_option maxRecDepth 100000 in
theorem c_P_isSheet (l : Launch) (G : GT) (ad : Nat → Nat) (hI : Inj LX ad) (σ : St) (a1 : Int) {Q : Int → St → Prop} (hV : V_P_isSheet σ a1 Q) : Met l yX7_isSheet wsX7_isSheet (rmx 0 0) (Pq vwCl G LX ad σ [iV a1]) (Qz vwCl G LX ad Q) 0 0 (Ax LX ad) := by
  unfold V_P_isSheet at hV
  refine x_metz (own := RX7) (by decide) rfl rfl (Nat.le_of_ble_eq_true rfl) hI ?_
  intro p e s m args below meth c R QQ X hR hret ls hl hw
  replace hl : lv_has ls 1 [(0, iV a1)] := hl
  obtain ⟨H, hH⟩ : ∃ z, z = s.heap := ⟨_, rfl⟩
  obtain ⟨locs, hlo⟩ : ∃ z : List Loc, z = [] := ⟨_, rfl⟩
  rw [← hH, ← hlo]
  replace hw : Wx vwCl G LX ad s H locs σ := by rw [hH, hlo]; exact hw
  clear hH hlo
  refine x_iload_n X dX7_isSheet_0 rfl (lv_at hl 0 rfl) ?_
  refine x_if_lt X rfl 13 dX7_isSheet_1 (by decide) (fun hc => ?_) (fun hc => ?_)
  · replace hV := hV.1 hc
    refine x_iconst X dX7_isSheet_13 ?_
    exact hret 0 σ H locs ls 14 (by decide) hV hw dX7_isSheet_14
  · replace hV := hV.2 hc
    refine x_iload_n X dX7_isSheet_4 rfl (lv_at hl 0 rfl) ?_
    refine x_iconst X dX7_isSheet_5 ?_
    refine x_icmp_ge X rfl k32_4 13 dX7_isSheet_6 (by decide) (fun hc => ?_) (fun hc => ?_)
    · replace hV := hV.1 hc
      refine x_iconst X dX7_isSheet_13 ?_
      exact hret 0 σ H locs ls 14 (by decide) hV hw dX7_isSheet_14
    · replace hV := hV.2 hc
      refine x_iconst X dX7_isSheet_9 ?_
      refine x_goto X 14 dX7_isSheet_10 (by decide) ?_
      exact hret 1 σ H locs ls 14 (by decide) hV hw dX7_isSheet_14

theorem n_P_rank_0 : Cond.fieldLink RX7 33 "LacePillow" "ground" "LLacePillow$Ground;" ∈ wsX7_rank := by decide +kernel
theorem n_P_rank_1 : ∀ w ∈ wsX70, w ∈ wsX7_rank := by decide +kernel
theorem n_P_rank_2 : Cond.fieldLink RX7 119 "LacePillow$Ground" "size" "I" ∈ wsX7_rank := by decide +kernel
theorem n_P_rank_3 : ∀ w ∈ wsX00, w ∈ wsX7_rank := by decide +kernel
theorem n_P_rank_4 : Cond.fieldLink RX7 71 "LacePillow" "sheets" "[LLacePillow$Sheet;" ∈ wsX7_rank := by decide +kernel
theorem n_P_rank_5 : Cond.fieldLink RX7 231 "LacePillow$Sheet" "sort" "I" ∈ wsX7_rank := by decide +kernel
theorem n_P_rank_6 : ∀ w ∈ wsX30, w ∈ wsX7_rank := by decide +kernel
theorem n_P_rank_7 : Cond.fieldLink RX7 40 "LacePillow" "ways" "LLacePillow$Ways;" ∈ wsX7_rank := by decide +kernel
set_option maxHeartbeats 4000000 in
set_option maxRecDepth 100000 in
theorem c_P_rank (l : Launch) (G : GT) (ad : Nat → Nat) (hI : Inj LX ad) (σ : St) (a1 : Int) {Q : Int → St → Prop} (hV : V_P_rank σ a1 Q) : Met l yX7_rank wsX7_rank (rmx 4 102) (Pq vwCl G LX ad σ [.ref (ad 0), iV a1]) (Ql vwCl G LX ad Q) 0 0 (Ax LX ad) := by
  unfold V_P_rank at hV
  refine x_metl (own := RX7) (by decide) rfl rfl (Nat.le_of_ble_eq_true rfl) hI ?_
  intro p e s m args below meth c R QQ X hR hret ls hl hw
  replace hl : lv_has ls 4 [(0, .ref (ad 0)), (1, iV a1)] := hl
  obtain ⟨H, hH⟩ : ∃ z, z = s.heap := ⟨_, rfl⟩
  obtain ⟨locs, hlo⟩ : ∃ z : List Loc, z = [] := ⟨_, rfl⟩
  rw [← hH, ← hlo]
  replace hw : Wx vwCl G LX ad s H locs σ := by rw [hH, hlo]; exact hw
  clear hH hlo
  refine x_iload_n X dX7_rank_0 rfl (lv_at hl 1 rfl) ?_
  refine x_csz X hw [iV a1] [] (c_P_isSheet l G ad hI σ a1 hV) (va_cwS 1 X.2.2.2.2 gX7_rank_X7_isSheet rfl rfl rfl hd_P_isSheet ⟨x_fr hR.1 rfl, x_fr hR.2 rfl⟩) rfl hl.1 rfl (Nat.le_of_ble_eq_true rfl) dX7_rank_1 ⟨Nat.zero_le _, Nat.zero_le _⟩ (fun r2 σ1 H locs hr2 hV hw => ?_)
  refine x_if_ne X rfl 13 dX7_rank_4 (by decide) (fun hc => ?_) (fun hc => ?_)
  · replace hV := hV.1 hc
    refine x_aload_n X dX7_rank_13 rfl (lv_at hl 0 rfl) ?_
    refine x_getr X hw lx0 cX7 4 (by decide) rfl n_P_rank_1 n_P_rank_0 dX7_rank_14 ?_
    refine x_geti X hw lx16 cX0 0 (by decide) rfl n_P_rank_3 n_P_rank_2 dX7_rank_17 ?_
    refine x_bipush X dX7_rank_20 (by decide) ?_
    refine x_icmp_le X rfl k32_20 31 dX7_rank_22 (by decide) (fun hc => ?_) (fun hc => ?_)
    · replace hV := hV.1 hc
      refine x_aload_n X dX7_rank_31 rfl (lv_at hl 0 rfl) ?_
      refine x_getr X hw lx0 cX7 11 (by decide) rfl n_P_rank_1 n_P_rank_4 dX7_rank_32 ?_
      refine x_iload_n X dX7_rank_35 rfl (lv_at hl 1 rfl) ?_
      obtain ⟨hi, hV⟩ := hV
      obtain ⟨q3, hq, eq3, hq3⟩ := sh_at hi
      replace hV := hV q3 eq3
      refine x_aald X hw lx55 rfl rfl hi q3 hq dX7_rank_36 ?_
      refine x_geti X hw (lfSheet hq3) cX3 0 (by decide) rfl n_P_rank_6 n_P_rank_5 dX7_rank_37 ?_
      refine x_iconst X dX7_rank_40 ?_
      refine x_icmp_ne X rfl k32_m1 51 dX7_rank_41 (by decide) (fun hc => ?_) (fun hc => ?_)
      · replace hV := hV.1 hc
        refine x_aload_n X dX7_rank_51 rfl (lv_at hl 0 rfl) ?_
        refine x_getr X hw lx0 cX7 5 (by decide) rfl n_P_rank_1 n_P_rank_7 dX7_rank_52 ?_
        refine x_aload_n X dX7_rank_55 rfl (lv_at hl 0 rfl) ?_
        refine x_getr X hw lx0 cX7 4 (by decide) rfl n_P_rank_1 n_P_rank_0 dX7_rank_56 ?_
        refine x_cvv X hw [.ref (ad 16)] [] (c_Ways_reckon l G ad hI σ1 hV) (cwV 1 X.2.2.2.2 gX7_rank_X5_reckon rfl rfl rfl hd_Ways_reckon ⟨x_fr hR.1 rfl, x_fr hR.2 rfl⟩) lx23 cX5 rfl hl.1 rfl (Nat.le_of_ble_eq_true rfl) dX7_rank_59 ⟨Nat.zero_le _, Nat.zero_le _⟩ (fun σ4 H locs hV hw => ?_)
        refine x_aload_n X dX7_rank_62 rfl (lv_at hl 0 rfl) ?_
        refine x_getr X hw lx0 cX7 5 (by decide) rfl n_P_rank_1 n_P_rank_7 dX7_rank_63 ?_
        refine x_aload_n X dX7_rank_66 rfl (lv_at hl 0 rfl) ?_
        refine x_getr X hw lx0 cX7 4 (by decide) rfl n_P_rank_1 n_P_rank_0 dX7_rank_67 ?_
        refine x_aload_n X dX7_rank_70 rfl (lv_at hl 0 rfl) ?_
        refine x_getr X hw lx0 cX7 11 (by decide) rfl n_P_rank_1 n_P_rank_4 dX7_rank_71 ?_
        refine x_iload_n X dX7_rank_74 rfl (lv_at hl 1 rfl) ?_
        obtain ⟨hi, hV⟩ := hV
        obtain ⟨q5, hq, eq5, hq5⟩ := sh_at hi
        replace hV := hV q5 eq5
        refine x_aald X hw lx55 rfl rfl hi q5 hq dX7_rank_75 ?_
        refine x_cvl X hw [.ref (ad 16), .ref (ad q5)] [] (c_Ways_numberOf l G ad hI q5 hq5 σ4 hV) (cwV 2 X.2.2.2.2 gX7_rank_X5_numberOf rfl rfl rfl hd_Ways_numberOf ⟨x_fr hR.1 rfl, x_fr hR.2 rfl⟩) lx23 cX5 rfl hl.1 rfl (Nat.le_of_ble_eq_true rfl) dX7_rank_76 ⟨Nat.zero_le _, Nat.zero_le _⟩ (fun r7 σ6 H locs hV hw => ?_)
        refine x_lstore_n X [(2, lV r7), (0, .ref (ad 0)), (1, iV a1)] dX7_rank_79 rfl hl (by decide) rfl (fun ls hl => ?_)
        refine x_lload_n X dX7_rank_80 rfl (lv_at hl 0 rfl) ?_
        refine x_lconst X 0 dX7_rank_81 rfl ?_
        refine x_lcmp_ge X rfl k64_0 94 dX7_rank_82 dX7_rank_83 (by decide) (fun hc => ?_) (fun hc => ?_)
        · replace hV := hV.1 hc
          refine x_lload_n X dX7_rank_94 rfl (lv_at hl 0 rfl) ?_
          exact hret r7 σ6 H locs ls 95 hV hw dX7_rank_95
        · replace hV := hV.2 hc
          refine x_aload_n X dX7_rank_86 rfl (lv_at hl 1 rfl) ?_
          refine x_iconst X dX7_rank_87 ?_
          refine x_cvl X hw [iV 3] [] (c_P_failLong l G ad hI σ6 3 hV) (cwV 1 X.2.2.2.2 gX7_rank_X7_failLong rfl rfl rfl hd_P_failLong ⟨x_fr hR.1 rfl, x_fr hR.2 rfl⟩) lx0 cX7 rfl hl.1 rfl (Nat.le_of_ble_eq_true rfl) dX7_rank_88 ⟨Nat.zero_le _, Nat.zero_le _⟩ (fun r9 σ8 H locs hV hw => ?_)
          refine x_goto X 95 dX7_rank_91 (by decide) ?_
          exact hret r9 σ8 H locs ls 95 hV hw dX7_rank_95
      · replace hV := hV.2 hc
        refine x_aload_n X dX7_rank_44 rfl (lv_at hl 0 rfl) ?_
        refine x_bipush X dX7_rank_45 (by decide) ?_
        refine x_cvl X hw [iV 7] [] (c_P_failLong l G ad hI σ1 7 hV) (cwV 1 X.2.2.2.2 gX7_rank_X7_failLong rfl rfl rfl hd_P_failLong ⟨x_fr hR.1 rfl, x_fr hR.2 rfl⟩) lx0 cX7 rfl hl.1 rfl (Nat.le_of_ble_eq_true rfl) dX7_rank_47 ⟨Nat.zero_le _, Nat.zero_le _⟩ (fun r11 σ10 H locs hV hw => ?_)
        exact hret r11 σ10 H locs ls 50 hV hw dX7_rank_50
    · replace hV := hV.2 hc
      refine x_aload_n X dX7_rank_25 rfl (lv_at hl 0 rfl) ?_
      refine x_iconst X dX7_rank_26 ?_
      refine x_cvl X hw [iV 4] [] (c_P_failLong l G ad hI σ1 4 hV) (cwV 1 X.2.2.2.2 gX7_rank_X7_failLong rfl rfl rfl hd_P_failLong ⟨x_fr hR.1 rfl, x_fr hR.2 rfl⟩) lx0 cX7 rfl hl.1 rfl (Nat.le_of_ble_eq_true rfl) dX7_rank_27 ⟨Nat.zero_le _, Nat.zero_le _⟩ (fun r13 σ12 H locs hV hw => ?_)
      exact hret r13 σ12 H locs ls 30 hV hw dX7_rank_30
  · replace hV := hV.2 hc
    refine x_aload_n X dX7_rank_7 rfl (lv_at hl 0 rfl) ?_
    refine x_iconst X dX7_rank_8 ?_
    refine x_cvl X hw [iV 1] [] (c_P_failLong l G ad hI σ1 1 hV) (cwV 1 X.2.2.2.2 gX7_rank_X7_failLong rfl rfl rfl hd_P_failLong ⟨x_fr hR.1 rfl, x_fr hR.2 rfl⟩) lx0 cX7 rfl hl.1 rfl (Nat.le_of_ble_eq_true rfl) dX7_rank_9 ⟨Nat.zero_le _, Nat.zero_le _⟩ (fun r15 σ14 H locs hV hw => ?_)
    exact hret r15 σ14 H locs ls 12 hV hw dX7_rank_12

theorem n_P_replay_0 : Cond.fieldLink RX7 47 "LacePillow" "done" "LLacePillow$Weave;" ∈ wsX7_replay := by decide +kernel
theorem n_P_replay_1 : ∀ w ∈ wsX70, w ∈ wsX7_replay := by decide +kernel
theorem n_P_replay_2 : Cond.fieldLink RX7 58 "LacePillow" "workedBits" "J" ∈ wsX7_replay := by decide +kernel
theorem n_P_replay_3 : Cond.fieldLink RX7 12 "LacePillow" "plan" "LLacePillow$Plan;" ∈ wsX7_replay := by decide +kernel
theorem n_P_replay_4 : Cond.fieldLink RX7 169 "LacePillow$Plan" "worked" "I" ∈ wsX7_replay := by decide +kernel
theorem n_P_replay_5 : ∀ w ∈ wsX20, w ∈ wsX7_replay := by decide +kernel
theorem n_P_replay_6 : Cond.fieldLink RX7 251 "LacePillow$Plan" "work" "[I" ∈ wsX7_replay := by decide +kernel
theorem n_P_replay_7 : Cond.fieldLink RX7 33 "LacePillow" "ground" "LLacePillow$Ground;" ∈ wsX7_replay := by decide +kernel
theorem n_P_replay_8 : Cond.fieldLink RX7 188 "LacePillow$Ground" "kinds" "[I" ∈ wsX7_replay := by decide +kernel
theorem n_P_replay_9 : ∀ w ∈ wsX00, w ∈ wsX7_replay := by decide +kernel
theorem n_P_replay_10 : Cond.fieldLink RX7 185 "LacePillow$Ground" "gaps" "[I" ∈ wsX7_replay := by decide +kernel
set_option maxHeartbeats 4000000 in
set_option maxRecDepth 100000 in
theorem c_P_replay (l : Launch) (G : GT) (ad : Nat → Nat) (hI : Inj LX ad) (σ : St) {Q : St → Prop} (hV : V_P_replay σ Q) : Met l yX7_replay wsX7_replay (rmx 4 105) (Pq vwCl G LX ad σ [.ref (ad 0)]) (Qv vwCl G LX ad Q) 0 0 (Ax LX ad) := by
  unfold V_P_replay at hV
  refine x_metv (own := RX7) (by decide) rfl rfl (Nat.le_of_ble_eq_true rfl) hI ?_
  intro p e s m args below meth c R QQ X hR hret ls hl hw
  replace hl : lv_has ls 3 [(0, .ref (ad 0))] := hl
  obtain ⟨H, hH⟩ : ∃ z, z = s.heap := ⟨_, rfl⟩
  obtain ⟨locs, hlo⟩ : ∃ z : List Loc, z = [] := ⟨_, rfl⟩
  rw [← hH, ← hlo]
  replace hw : Wx vwCl G LX ad s H locs σ := by rw [hH, hlo]; exact hw
  clear hH hlo
  refine x_aload_n X dX7_replay_0 rfl (lv_at hl 0 rfl) ?_
  refine x_getr X hw lx0 cX7 6 (by decide) rfl n_P_replay_1 n_P_replay_0 dX7_replay_1 ?_
  refine x_cvv X hw [] [] (c_Weave_clear l G ad hI 29 isWeave29 σ hV) (cwV 0 X.2.2.2.2 gX7_replay_X6_clear rfl rfl rfl hd_Weave_clear ⟨x_fr hR.1 rfl, x_fr hR.2 rfl⟩) lx29 cX6 rfl hl.1 rfl (Nat.le_of_ble_eq_true rfl) dX7_replay_4 ⟨Nat.zero_le _, Nat.zero_le _⟩ (fun σ1 H locs hV hw => ?_)
  refine x_aload_n X dX7_replay_7 rfl (lv_at hl 0 rfl) ?_
  refine x_lconst X 0 dX7_replay_8 rfl ?_
  refine x_putl X hw lx0 cX7 9 (by decide) rfl n_P_replay_1 n_P_replay_2 tyX7 tyX7_ok nmX7 rfl rfl rfl dX7_replay_9 (fun H locs σ2 hs hw => ?_)
  replace hV := hV σ2 hs
  refine x_iconst X dX7_replay_12 ?_
  refine x_istore_n X [(1, iV 0), (0, .ref (ad 0))] dX7_replay_13 rfl hl (by decide) rfl (fun ls hl => ?_)
  refine WL1.use (Gl := fun x1_3 σ4 => ∀ (H : Heap) (locs : List Loc) (ls : Array Slot), Wx vwCl G LX ad s H locs σ4 → lv_has ls 3 [(1, iV x1_3), (0, .ref (ad 0))] → W p l e R s m args below meth c H locs 0 0 QQ (F0 m 14 ls [])) ?_ hV H locs ls hw hl
  clear hV hw hl H locs ls
  intro bk5 x1_3 σ4 hbk5 hV H locs ls hw hl
  refine x_iload_n X dX7_replay_14 rfl (lv_at hl 0 rfl) ?_
  refine x_aload_n X dX7_replay_15 rfl (lv_at hl 1 rfl) ?_
  refine x_getr X hw lx0 cX7 0 (by decide) rfl n_P_replay_1 n_P_replay_3 dX7_replay_16 ?_
  refine x_geti X hw lx1 cX2 6 (by decide) rfl n_P_replay_5 n_P_replay_4 dX7_replay_19 ?_
  refine x_icmp_ge X rfl rfl 82 dX7_replay_22 (by decide) (fun hc => ?_) (fun hc => ?_)
  · replace hV := hV.1 hc
    exact hret σ4 H locs ls 82 hV hw dX7_replay_82
  · replace hV := hV.2 hc
    refine x_aload_n X dX7_replay_25 rfl (lv_at hl 1 rfl) ?_
    refine x_getr X hw lx0 cX7 0 (by decide) rfl n_P_replay_1 n_P_replay_3 dX7_replay_26 ?_
    refine x_getr X hw lx1 cX2 5 (by decide) rfl n_P_replay_5 n_P_replay_6 dX7_replay_29 ?_
    refine x_iload_n X dX7_replay_32 rfl (lv_at hl 0 rfl) ?_
    obtain ⟨hi, hV⟩ := hV
    refine x_iald X hw lx6 rfl rfl hi dX7_replay_33 ?_
    refine x_bi (fun x2_6 ex2_6 => ?_)
    replace hV := hV x2_6 ex2_6
    clear ex2_6
    refine x_istore_n X [(2, iV x2_6), (1, iV x1_3), (0, .ref (ad 0))] dX7_replay_34 rfl hl (by decide) rfl (fun ls hl => ?_)
    refine x_aload_n X dX7_replay_35 rfl (lv_at hl 2 rfl) ?_
    refine x_getr X hw lx0 cX7 6 (by decide) rfl n_P_replay_1 n_P_replay_0 dX7_replay_36 ?_
    refine x_aload_n X dX7_replay_39 rfl (lv_at hl 2 rfl) ?_
    refine x_getr X hw lx0 cX7 0 (by decide) rfl n_P_replay_1 n_P_replay_3 dX7_replay_40 ?_
    refine x_aload_n X dX7_replay_43 rfl (lv_at hl 2 rfl) ?_
    refine x_getr X hw lx0 cX7 4 (by decide) rfl n_P_replay_1 n_P_replay_7 dX7_replay_44 ?_
    refine x_getr X hw lx16 cX0 4 (by decide) rfl n_P_replay_9 n_P_replay_8 dX7_replay_47 ?_
    refine x_iload_n X dX7_replay_50 rfl (lv_at hl 0 rfl) ?_
    obtain ⟨hi, hV⟩ := hV
    refine x_iald X hw lx19 rfl rfl hi dX7_replay_51 ?_
    refine x_aload_n X dX7_replay_52 rfl (lv_at hl 2 rfl) ?_
    refine x_getr X hw lx0 cX7 4 (by decide) rfl n_P_replay_1 n_P_replay_7 dX7_replay_53 ?_
    refine x_getr X hw lx16 cX0 3 (by decide) rfl n_P_replay_9 n_P_replay_10 dX7_replay_56 ?_
    refine x_iload_n X dX7_replay_59 rfl (lv_at hl 0 rfl) ?_
    obtain ⟨hi, hV⟩ := hV
    refine x_iald X hw lx18 rfl rfl hi dX7_replay_60 ?_
    refine x_cvv X hw [.ref (ad 1), iV (σ4 19 (i32 x2_6)), iV (σ4 18 (i32 x2_6))] [] (c_Weave_make l G ad hI 29 isWeave29 σ4 (σ4 19 (i32 x2_6)) (σ4 18 (i32 x2_6)) hV) (cwV 3 X.2.2.2.2 gX7_replay_X6_make rfl rfl rfl hd_Weave_make ⟨x_fr hR.1 rfl, x_fr hR.2 rfl⟩) lx29 cX6 rfl hl.1 rfl (Nat.le_of_ble_eq_true rfl) dX7_replay_61 ⟨Nat.zero_le _, Nat.zero_le _⟩ (fun σ7 H locs hV hw => ?_)
    refine x_aload_n X dX7_replay_64 rfl (lv_at hl 2 rfl) ?_
    refine x_dup X dX7_replay_65 rfl ?_
    refine x_getl X hw lx0 cX7 9 (by decide) rfl n_P_replay_1 n_P_replay_2 dX7_replay_66 ?_
    refine x_lconst X 1 dX7_replay_69 rfl ?_
    refine x_iload_n X dX7_replay_70 rfl (lv_at hl 0 rfl) ?_
    refine x_lshl X dX7_replay_71 ?_
    refine x_lor X dX7_replay_72 ?_
    refine x_putl X hw lx0 cX7 9 (by decide) rfl n_P_replay_1 n_P_replay_2 tyX7 tyX7_ok nmX7 rfl rfl rfl dX7_replay_73 (fun H locs σ8 hs hw => ?_)
    replace hV := hV σ8 hs
    refine x_iinc X (k := 1) (x1_3 + 1) [(1, iV (x1_3 + 1)), (2, iV x2_6), (0, .ref (ad 0))] dX7_replay_76 hl rfl rfl (by decide) rfl (fun ls hl => ?_)
    refine x_goto X 14 dX7_replay_79 (by decide) ?_
    exact hbk5 (x1_3 + 1) σ8 hV H locs ls hw (lv_sub hl [0, 2] rfl)

theorem n_P_tryStitch_0 : Cond.fieldLink RX7 33 "LacePillow" "ground" "LLacePillow$Ground;" ∈ wsX7_tryStitch := by decide +kernel
theorem n_P_tryStitch_1 : ∀ w ∈ wsX70, w ∈ wsX7_tryStitch := by decide +kernel
theorem n_P_tryStitch_2 : Cond.fieldLink RX7 58 "LacePillow" "workedBits" "J" ∈ wsX7_tryStitch := by decide +kernel
theorem n_P_tryStitch_3 : Cond.fieldLink RX7 47 "LacePillow" "done" "LLacePillow$Weave;" ∈ wsX7_tryStitch := by decide +kernel
theorem n_P_tryStitch_4 : Cond.fieldLink RX7 12 "LacePillow" "plan" "LLacePillow$Plan;" ∈ wsX7_tryStitch := by decide +kernel
theorem n_P_tryStitch_5 : Cond.fieldLink RX7 188 "LacePillow$Ground" "kinds" "[I" ∈ wsX7_tryStitch := by decide +kernel
theorem n_P_tryStitch_6 : ∀ w ∈ wsX00, w ∈ wsX7_tryStitch := by decide +kernel
theorem n_P_tryStitch_7 : Cond.fieldLink RX7 185 "LacePillow$Ground" "gaps" "[I" ∈ wsX7_tryStitch := by decide +kernel
theorem n_P_tryStitch_8 : Cond.fieldLink RX7 263 "LacePillow$Plan" "wound" "[I" ∈ wsX7_tryStitch := by decide +kernel
theorem n_P_tryStitch_9 : ∀ w ∈ wsX20, w ∈ wsX7_tryStitch := by decide +kernel
theorem n_P_tryStitch_10 : Cond.fieldLink RX7 251 "LacePillow$Plan" "work" "[I" ∈ wsX7_tryStitch := by decide +kernel
theorem n_P_tryStitch_11 : Cond.fieldLink RX7 169 "LacePillow$Plan" "worked" "I" ∈ wsX7_tryStitch := by decide +kernel
set_option maxHeartbeats 4000000 in
set_option maxRecDepth 100000 in
theorem c_P_tryStitch (l : Launch) (G : GT) (ad : Nat → Nat) (hI : Inj LX ad) (σ : St) (a1 : Int) {Q : Int → St → Prop} (hV : V_P_tryStitch σ a1 Q) : Met l yX7_tryStitch wsX7_tryStitch (rmx 5 127) (Pq vwCl G LX ad σ [.ref (ad 0), lV a1]) (Qi vwCl G LX ad Q) 0 0 (Ax LX ad) := by
  unfold V_P_tryStitch at hV
  refine x_meti (own := RX7) (by decide) rfl rfl (Nat.le_of_ble_eq_true rfl) hI ?_
  intro p e s m args below meth c R QQ X hR hret ls hl hw
  replace hl : lv_has ls 4 [(0, .ref (ad 0)), (1, lV a1)] := hl
  obtain ⟨H, hH⟩ : ∃ z, z = s.heap := ⟨_, rfl⟩
  obtain ⟨locs, hlo⟩ : ∃ z : List Loc, z = [] := ⟨_, rfl⟩
  rw [← hH, ← hlo]
  replace hw : Wx vwCl G LX ad s H locs σ := by rw [hH, hlo]; exact hw
  clear hH hlo
  refine x_aload_n X dX7_tryStitch_0 rfl (lv_at hl 0 rfl) ?_
  refine x_lload_n X dX7_tryStitch_1 rfl (lv_at hl 1 rfl) ?_
  refine x_cvz X hw [lV a1] [] (c_P_isStitch l G ad hI σ a1 hV) (cwV 1 X.2.2.2.2 gX7_tryStitch_X7_isStitch rfl rfl rfl hd_P_isStitch ⟨x_fr hR.1 rfl, x_fr hR.2 rfl⟩) lx0 cX7 rfl hl.1 rfl (Nat.le_of_ble_eq_true rfl) dX7_tryStitch_2 ⟨Nat.zero_le _, Nat.zero_le _⟩ (fun r2 σ1 H locs hr2 hV hw => ?_)
  refine x_if_ne X rfl 10 dX7_tryStitch_5 (by decide) (fun hc => ?_) (fun hc => ?_)
  · replace hV := hV.1 hc
    refine x_lload_n X dX7_tryStitch_10 rfl (lv_at hl 1 rfl) ?_
    refine x_l2i X dX7_tryStitch_11 ?_
    refine x_istore_n X [(3, iV a1), (0, .ref (ad 0)), (1, lV a1)] dX7_tryStitch_12 rfl hl (by decide) rfl (fun ls hl => ?_)
    refine x_aload_n X dX7_tryStitch_13 rfl (lv_at hl 1 rfl) ?_
    refine x_getr X hw lx0 cX7 4 (by decide) rfl n_P_tryStitch_1 n_P_tryStitch_0 dX7_tryStitch_14 ?_
    refine x_iload_n X dX7_tryStitch_17 rfl (lv_at hl 0 rfl) ?_
    refine x_aload_n X dX7_tryStitch_18 rfl (lv_at hl 1 rfl) ?_
    refine x_getl X hw lx0 cX7 9 (by decide) rfl n_P_tryStitch_1 n_P_tryStitch_2 dX7_tryStitch_19 ?_
    refine x_cvz X hw [iV a1, lV (σ1 0 9)] [] (c_Ground_isFree l G ad hI σ1 a1 (σ1 0 9) hV) (cwV 2 X.2.2.2.2 gX7_tryStitch_X0_isFree rfl rfl rfl hd_Ground_isFree ⟨x_fr hR.1 rfl, x_fr hR.2 rfl⟩) lx16 cX0 rfl hl.1 rfl (Nat.le_of_ble_eq_true rfl) dX7_tryStitch_22 ⟨Nat.zero_le _, Nat.zero_le _⟩ (fun r4 σ3 H locs hr4 hV hw => ?_)
    refine x_if_ne X rfl 30 dX7_tryStitch_25 (by decide) (fun hc => ?_) (fun hc => ?_)
    · replace hV := hV.1 hc
      refine x_aload_n X dX7_tryStitch_30 rfl (lv_at hl 1 rfl) ?_
      refine x_getr X hw lx0 cX7 6 (by decide) rfl n_P_tryStitch_1 n_P_tryStitch_3 dX7_tryStitch_31 ?_
      refine x_aload_n X dX7_tryStitch_34 rfl (lv_at hl 1 rfl) ?_
      refine x_getr X hw lx0 cX7 0 (by decide) rfl n_P_tryStitch_1 n_P_tryStitch_4 dX7_tryStitch_35 ?_
      refine x_aload_n X dX7_tryStitch_38 rfl (lv_at hl 1 rfl) ?_
      refine x_getr X hw lx0 cX7 4 (by decide) rfl n_P_tryStitch_1 n_P_tryStitch_0 dX7_tryStitch_39 ?_
      refine x_getr X hw lx16 cX0 4 (by decide) rfl n_P_tryStitch_6 n_P_tryStitch_5 dX7_tryStitch_42 ?_
      refine x_iload_n X dX7_tryStitch_45 rfl (lv_at hl 0 rfl) ?_
      obtain ⟨hi, hV⟩ := hV
      refine x_iald X hw lx19 rfl rfl hi dX7_tryStitch_46 ?_
      refine x_aload_n X dX7_tryStitch_47 rfl (lv_at hl 1 rfl) ?_
      refine x_getr X hw lx0 cX7 4 (by decide) rfl n_P_tryStitch_1 n_P_tryStitch_0 dX7_tryStitch_48 ?_
      refine x_getr X hw lx16 cX0 3 (by decide) rfl n_P_tryStitch_6 n_P_tryStitch_7 dX7_tryStitch_51 ?_
      refine x_iload_n X dX7_tryStitch_54 rfl (lv_at hl 0 rfl) ?_
      obtain ⟨hi, hV⟩ := hV
      refine x_iald X hw lx18 rfl rfl hi dX7_tryStitch_55 ?_
      refine x_cvv X hw [.ref (ad 1), iV (σ3 19 (i32 a1)), iV (σ3 18 (i32 a1))] [] (c_Weave_make l G ad hI 29 isWeave29 σ3 (σ3 19 (i32 a1)) (σ3 18 (i32 a1)) hV) (cwV 3 X.2.2.2.2 gX7_tryStitch_X6_make rfl rfl rfl hd_Weave_make ⟨x_fr hR.1 rfl, x_fr hR.2 rfl⟩) lx29 cX6 rfl hl.1 rfl (Nat.le_of_ble_eq_true rfl) dX7_tryStitch_56 ⟨Nat.zero_le _, Nat.zero_le _⟩ (fun σ5 H locs hV hw => ?_)
      refine x_aload_n X dX7_tryStitch_59 rfl (lv_at hl 1 rfl) ?_
      refine x_getr X hw lx0 cX7 6 (by decide) rfl n_P_tryStitch_1 n_P_tryStitch_3 dX7_tryStitch_60 ?_
      refine x_aload_n X dX7_tryStitch_63 rfl (lv_at hl 1 rfl) ?_
      refine x_getr X hw lx0 cX7 0 (by decide) rfl n_P_tryStitch_1 n_P_tryStitch_4 dX7_tryStitch_64 ?_
      refine x_getr X hw lx1 cX2 4 (by decide) rfl n_P_tryStitch_9 n_P_tryStitch_8 dX7_tryStitch_67 ?_
      refine x_cvi X hw [.ref (ad 5)] [] (c_Weave_leastLacking l G ad hI 29 isWeave29 σ5 hV) (cwV 1 X.2.2.2.2 gX7_tryStitch_X6_leastLacking rfl rfl rfl hd_Weave_leastLacking ⟨x_fr hR.1 rfl, x_fr hR.2 rfl⟩) lx29 cX6 rfl hl.1 rfl (Nat.le_of_ble_eq_true rfl) dX7_tryStitch_70 ⟨Nat.zero_le _, Nat.zero_le _⟩ (fun r7 σ6 H locs hV hw => ?_)
      refine x_if_lt X rfl 83 dX7_tryStitch_73 (by decide) (fun hc => ?_) (fun hc => ?_)
      · replace hV := hV.1 hc
        refine x_aload_n X dX7_tryStitch_83 rfl (lv_at hl 1 rfl) ?_
        refine x_dup X dX7_tryStitch_84 rfl ?_
        refine x_getl X hw lx0 cX7 9 (by decide) rfl n_P_tryStitch_1 n_P_tryStitch_2 dX7_tryStitch_85 ?_
        refine x_lconst X 1 dX7_tryStitch_88 rfl ?_
        refine x_iload_n X dX7_tryStitch_89 rfl (lv_at hl 0 rfl) ?_
        refine x_lshl X dX7_tryStitch_90 ?_
        refine x_lor X dX7_tryStitch_91 ?_
        refine x_putl X hw lx0 cX7 9 (by decide) rfl n_P_tryStitch_1 n_P_tryStitch_2 tyX7 tyX7_ok nmX7 rfl rfl rfl dX7_tryStitch_92 (fun H locs σ8 hs hw => ?_)
        replace hV := hV σ8 hs
        refine x_aload_n X dX7_tryStitch_95 rfl (lv_at hl 1 rfl) ?_
        refine x_getr X hw lx0 cX7 0 (by decide) rfl n_P_tryStitch_1 n_P_tryStitch_4 dX7_tryStitch_96 ?_
        refine x_getr X hw lx1 cX2 5 (by decide) rfl n_P_tryStitch_9 n_P_tryStitch_10 dX7_tryStitch_99 ?_
        refine x_aload_n X dX7_tryStitch_102 rfl (lv_at hl 1 rfl) ?_
        refine x_getr X hw lx0 cX7 0 (by decide) rfl n_P_tryStitch_1 n_P_tryStitch_4 dX7_tryStitch_103 ?_
        refine x_geti X hw lx1 cX2 6 (by decide) rfl n_P_tryStitch_9 n_P_tryStitch_11 dX7_tryStitch_106 ?_
        refine x_iload_n X dX7_tryStitch_109 rfl (lv_at hl 0 rfl) ?_
        obtain ⟨hi, hV⟩ := hV
        refine x_iast X hw lx6 rfl rfl hi dX7_tryStitch_110 (fun H locs σ9 hs hw => ?_)
        replace hV := hV σ9 hs
        refine x_aload_n X dX7_tryStitch_111 rfl (lv_at hl 1 rfl) ?_
        refine x_getr X hw lx0 cX7 0 (by decide) rfl n_P_tryStitch_1 n_P_tryStitch_4 dX7_tryStitch_112 ?_
        refine x_dup X dX7_tryStitch_115 rfl ?_
        refine x_geti X hw lx1 cX2 6 (by decide) rfl n_P_tryStitch_9 n_P_tryStitch_11 dX7_tryStitch_116 ?_
        refine x_iconst X dX7_tryStitch_119 ?_
        refine x_iadd X dX7_tryStitch_120 ?_
        refine x_puti X hw lx1 cX2 6 (by decide) rfl n_P_tryStitch_9 n_P_tryStitch_11 tyX2 tyX2_ok nmX2 rfl rfl rfl dX7_tryStitch_121 (fun H locs σ10 hs hw => ?_)
        replace hV := hV σ10 hs
        refine x_iconst X dX7_tryStitch_124 ?_
        exact hret 0 σ10 H locs ls 125 hV hw dX7_tryStitch_125
      · replace hV := hV.2 hc
        refine x_aload_n X dX7_tryStitch_76 rfl (lv_at hl 1 rfl) ?_
        refine x_cvv X hw [] [] (c_P_replay l G ad hI σ6 hV) (cwV 0 X.2.2.2.2 gX7_tryStitch_X7_replay rfl rfl rfl hd_P_replay ⟨x_fr hR.1 rfl, x_fr hR.2 rfl⟩) lx0 cX7 rfl hl.1 rfl (Nat.le_of_ble_eq_true rfl) dX7_tryStitch_77 ⟨Nat.zero_le _, Nat.zero_le _⟩ (fun σ11 H locs hV hw => ?_)
        refine x_bipush X dX7_tryStitch_80 (by decide) ?_
        exact hret 6 σ11 H locs ls 82 hV hw dX7_tryStitch_82
    · replace hV := hV.2 hc
      refine x_iconst X dX7_tryStitch_28 ?_
      exact hret 3 σ3 H locs ls 29 hV hw dX7_tryStitch_29
  · replace hV := hV.2 hc
    refine x_iconst X dX7_tryStitch_8 ?_
    exact hret 1 σ1 H locs ls 9 hV hw dX7_tryStitch_9

theorem n_P_work_0 : Cond.fieldLink RX7 12 "LacePillow" "plan" "LLacePillow$Plan;" ∈ wsX7_work := by decide +kernel
theorem n_P_work_1 : ∀ w ∈ wsX70, w ∈ wsX7_work := by decide +kernel
theorem n_P_work_2 : Cond.fieldLink RX7 33 "LacePillow" "ground" "LLacePillow$Ground;" ∈ wsX7_work := by decide +kernel
theorem n_P_work_3 : Cond.fieldLink RX7 188 "LacePillow$Ground" "kinds" "[I" ∈ wsX7_work := by decide +kernel
theorem n_P_work_4 : ∀ w ∈ wsX00, w ∈ wsX7_work := by decide +kernel
set_option maxHeartbeats 4000000 in
set_option maxRecDepth 100000 in
theorem c_P_work (l : Launch) (G : GT) (ad : Nat → Nat) (hI : Inj LX ad) (σ : St) (a1 : Int) {Q : Int → St → Prop} (hV : V_P_work σ a1 Q) : Met l yX7_work wsX7_work (rmx 6 150) (Pq vwCl G LX ad σ [.ref (ad 0), iV a1]) (Qi vwCl G LX ad Q) 0 0 (Ax LX ad) := by
  unfold V_P_work at hV
  refine x_meti (own := RX7) (by decide) rfl rfl (Nat.le_of_ble_eq_true rfl) hI ?_
  intro p e s m args below meth c R QQ X hR hret ls hl hw
  replace hl : lv_has ls 3 [(0, .ref (ad 0)), (1, iV a1)] := hl
  obtain ⟨H, hH⟩ : ∃ z, z = s.heap := ⟨_, rfl⟩
  obtain ⟨locs, hlo⟩ : ∃ z : List Loc, z = [] := ⟨_, rfl⟩
  rw [← hH, ← hlo]
  replace hw : Wx vwCl G LX ad s H locs σ := by rw [hH, hlo]; exact hw
  clear hH hlo
  refine x_aload_n X dX7_work_0 rfl (lv_at hl 0 rfl) ?_
  refine x_iload_n X dX7_work_1 rfl (lv_at hl 1 rfl) ?_
  refine x_i2l X dX7_work_2 ?_
  refine x_cvi X hw [lV (i32 a1)] [] (c_P_tryStitch l G ad hI σ (i32 a1) hV) (cwV 1 X.2.2.2.2 gX7_work_X7_tryStitch rfl rfl rfl hd_P_tryStitch ⟨x_fr hR.1 rfl, x_fr hR.2 rfl⟩) lx0 cX7 rfl hl.1 rfl (Nat.le_of_ble_eq_true rfl) dX7_work_3 ⟨Nat.zero_le _, Nat.zero_le _⟩ (fun r2 σ1 H locs hV hw => ?_)
  refine x_istore_n X [(2, iV r2), (0, .ref (ad 0)), (1, iV a1)] dX7_work_6 rfl hl (by decide) rfl (fun ls hl => ?_)
  refine x_iload_n X dX7_work_7 rfl (lv_at hl 0 rfl) ?_
  refine x_if_eq X rfl 17 dX7_work_8 (by decide) (fun hc => ?_) (fun hc => ?_)
  · replace hV := hV.1 hc
    refine x_aload_n X dX7_work_17 rfl (lv_at hl 1 rfl) ?_
    refine x_getr X hw lx0 cX7 0 (by decide) rfl n_P_work_1 n_P_work_0 dX7_work_18 ?_
    refine x_aload_n X dX7_work_21 rfl (lv_at hl 1 rfl) ?_
    refine x_getr X hw lx0 cX7 4 (by decide) rfl n_P_work_1 n_P_work_2 dX7_work_22 ?_
    refine x_getr X hw lx16 cX0 4 (by decide) rfl n_P_work_4 n_P_work_3 dX7_work_25 ?_
    refine x_iload_n X dX7_work_28 rfl (lv_at hl 2 rfl) ?_
    obtain ⟨hi, hV⟩ := hV
    refine x_iald X hw lx19 rfl rfl hi dX7_work_29 ?_
    refine x_cvi X hw [iV (σ1 19 (i32 a1))] [] (c_Plan_crossingsOf l G ad hI σ1 (σ1 19 (i32 a1)) hV) (cwV 1 X.2.2.2.2 gX7_work_X2_crossingsOf rfl rfl rfl hd_Plan_crossingsOf ⟨x_fr hR.1 rfl, x_fr hR.2 rfl⟩) lx1 cX2 rfl hl.1 rfl (Nat.le_of_ble_eq_true rfl) dX7_work_30 ⟨Nat.zero_le _, Nat.zero_le _⟩ (fun r4 σ3 H locs hV hw => ?_)
    exact hret r4 σ3 H locs ls 33 hV hw dX7_work_33
  · replace hV := hV.2 hc
    refine x_aload_n X dX7_work_11 rfl (lv_at hl 1 rfl) ?_
    refine x_iload_n X dX7_work_12 rfl (lv_at hl 0 rfl) ?_
    refine x_cvi X hw [iV r2] [] (c_P_fail l G ad hI σ1 r2 hV) (cwV 1 X.2.2.2.2 gX7_work_X7_fail rfl rfl rfl hd_P_fail ⟨x_fr hR.1 rfl, x_fr hR.2 rfl⟩) lx0 cX7 rfl hl.1 rfl (Nat.le_of_ble_eq_true rfl) dX7_work_13 ⟨Nat.zero_le _, Nat.zero_le _⟩ (fun r6 σ5 H locs hV hw => ?_)
    exact hret r6 σ5 H locs ls 16 hV hw dX7_work_16

theorem n_P_works_0 : Cond.fieldLink RX7 71 "LacePillow" "sheets" "[LLacePillow$Sheet;" ∈ wsX7_works := by decide +kernel
theorem n_P_works_1 : ∀ w ∈ wsX70, w ∈ wsX7_works := by decide +kernel
theorem n_P_works_2 : Cond.fieldLink RX7 231 "LacePillow$Sheet" "sort" "I" ∈ wsX7_works := by decide +kernel
theorem n_P_works_3 : ∀ w ∈ wsX30, w ∈ wsX7_works := by decide +kernel
theorem n_P_works_4 : Cond.fieldLink RX7 244 "LacePillow$Sheet" "size" "I" ∈ wsX7_works := by decide +kernel
theorem n_P_works_5 : Cond.fieldLink RX7 245 "LacePillow$Sheet" "numbers" "[J" ∈ wsX7_works := by decide +kernel
set_option maxHeartbeats 4000000 in
set_option maxRecDepth 100000 in
theorem c_P_works (l : Launch) (G : GT) (ad : Nat → Nat) (hI : Inj LX ad) (σ : St) (a1 : Int) {Q : Int → St → Prop} (hV : V_P_works σ a1 Q) : Met l yX7_works wsX7_works (rmx 6 150) (Pq vwCl G LX ad σ [.ref (ad 0), iV a1]) (Qi vwCl G LX ad Q) 0 0 (Ax LX ad) := by
  unfold V_P_works at hV
  refine x_meti (own := RX7) (by decide) rfl rfl (Nat.le_of_ble_eq_true rfl) hI ?_
  intro p e s m args below meth c R QQ X hR hret ls hl hw
  replace hl : lv_has ls 4 [(0, .ref (ad 0)), (1, iV a1)] := hl
  obtain ⟨H, hH⟩ : ∃ z, z = s.heap := ⟨_, rfl⟩
  obtain ⟨locs, hlo⟩ : ∃ z : List Loc, z = [] := ⟨_, rfl⟩
  rw [← hH, ← hlo]
  replace hw : Wx vwCl G LX ad s H locs σ := by rw [hH, hlo]; exact hw
  clear hH hlo
  refine x_iload_n X dX7_works_0 rfl (lv_at hl 1 rfl) ?_
  refine x_csz X hw [iV a1] [] (c_P_isSheet l G ad hI σ a1 hV) (va_cwS 1 X.2.2.2.2 gX7_works_X7_isSheet rfl rfl rfl hd_P_isSheet ⟨x_fr hR.1 rfl, x_fr hR.2 rfl⟩) rfl hl.1 rfl (Nat.le_of_ble_eq_true rfl) dX7_works_1 ⟨Nat.zero_le _, Nat.zero_le _⟩ (fun r2 σ1 H locs hr2 hV hw => ?_)
  refine x_if_ne X rfl 13 dX7_works_4 (by decide) (fun hc => ?_) (fun hc => ?_)
  · replace hV := hV.1 hc
    refine x_aload_n X dX7_works_13 rfl (lv_at hl 0 rfl) ?_
    refine x_getr X hw lx0 cX7 11 (by decide) rfl n_P_works_1 n_P_works_0 dX7_works_14 ?_
    refine x_iload_n X dX7_works_17 rfl (lv_at hl 1 rfl) ?_
    obtain ⟨hi, hV⟩ := hV
    obtain ⟨q3, hq, eq3, hq3⟩ := sh_at hi
    replace hV := hV q3 eq3
    refine x_aald X hw lx55 rfl rfl hi q3 hq dX7_works_18 ?_
    refine x_astore_n X [(2, .ref (ad q3)), (0, .ref (ad 0)), (1, iV a1)] dX7_works_19 rfl hl (by decide) rfl (fun ls hl => ?_)
    refine x_aload_n X dX7_works_20 rfl (lv_at hl 0 rfl) ?_
    refine x_geti X hw (lfSheet hq3) cX3 0 (by decide) rfl n_P_works_3 n_P_works_2 dX7_works_21 ?_
    refine x_iconst X dX7_works_24 ?_
    refine x_icmp_ne X rfl k32_m1 35 dX7_works_25 (by decide) (fun hc => ?_) (fun hc => ?_)
    · replace hV := hV.1 hc
      refine x_iconst X dX7_works_35 ?_
      refine x_istore_n X [(3, iV 0), (2, .ref (ad q3)), (0, .ref (ad 0)), (1, iV a1)] dX7_works_36 rfl hl (by decide) rfl (fun ls hl => ?_)
      refine WL1.use (Gl := fun x3_4 σ5 => ∀ (H : Heap) (locs : List Loc) (ls : Array Slot), Wx vwCl G LX ad s H locs σ5 → lv_has ls 4 [(3, iV x3_4), (2, .ref (ad q3)), (0, .ref (ad 0))] → W p l e R s m args below meth c H locs 0 0 QQ (F0 m 37 ls [])) ?_ hV H locs ls hw (lv_sub hl [0, 1, 2] rfl)
      clear hV hw hl H locs ls
      intro bk6 x3_4 σ5 hbk6 hV H locs ls hw hl
      refine x_iload_n X dX7_works_37 rfl (lv_at hl 0 rfl) ?_
      refine x_aload_n X dX7_works_38 rfl (lv_at hl 1 rfl) ?_
      refine x_geti X hw (lfSheet hq3) cX3 1 (by decide) rfl n_P_works_3 n_P_works_4 dX7_works_39 ?_
      refine x_icmp_ge X rfl rfl 66 dX7_works_42 (by decide) (fun hc => ?_) (fun hc => ?_)
      · replace hV := hV.1 hc
        refine x_aload_n X dX7_works_66 rfl (lv_at hl 1 rfl) ?_
        refine x_geti X hw (lfSheet hq3) cX3 1 (by decide) rfl n_P_works_3 n_P_works_4 dX7_works_67 ?_
        exact hret (σ5 q3 1) σ5 H locs ls 70 hV hw dX7_works_70
      · replace hV := hV.2 hc
        refine x_aload_n X dX7_works_45 rfl (lv_at hl 2 rfl) ?_
        refine x_aload_n X dX7_works_46 rfl (lv_at hl 1 rfl) ?_
        refine x_getr X hw (lfSheet hq3) cX3 2 (by decide) rfl n_P_works_3 n_P_works_5 dX7_works_47 ?_
        refine x_iload_n X dX7_works_50 rfl (lv_at hl 0 rfl) ?_
        obtain ⟨hi, hV⟩ := hV
        refine x_lald X hw (lfSheet1 hq3) rfl rfl hi dX7_works_51 ?_
        refine x_cvi X hw [lV (σ5 (q3 + 1) (i32 x3_4))] [] (c_P_tryStitch l G ad hI σ5 (σ5 (q3 + 1) (i32 x3_4)) hV) (cwV 1 X.2.2.2.2 gX7_works_X7_tryStitch rfl rfl rfl hd_P_tryStitch ⟨x_fr hR.1 rfl, x_fr hR.2 rfl⟩) lx0 cX7 rfl hl.1 rfl (Nat.le_of_ble_eq_true rfl) dX7_works_52 ⟨Nat.zero_le _, Nat.zero_le _⟩ (fun r8 σ7 H locs hV hw => ?_)
        refine x_if_eq X rfl 60 dX7_works_55 (by decide) (fun hc => ?_) (fun hc => ?_)
        · replace hV := hV.1 hc
          refine x_iinc X (k := 0) (x3_4 + 1) [(3, iV (x3_4 + 1)), (2, .ref (ad q3)), (0, .ref (ad 0))] dX7_works_60 hl rfl rfl (by decide) rfl (fun ls hl => ?_)
          refine x_goto X 37 dX7_works_63 (by decide) ?_
          exact hbk6 (x3_4 + 1) σ7 hV H locs ls hw hl
        · replace hV := hV.2 hc
          refine x_iload_n X dX7_works_58 rfl (lv_at hl 0 rfl) ?_
          exact hret x3_4 σ7 H locs ls 59 hV hw dX7_works_59
    · replace hV := hV.2 hc
      refine x_aload_n X dX7_works_28 rfl (lv_at hl 1 rfl) ?_
      refine x_bipush X dX7_works_29 (by decide) ?_
      refine x_cvi X hw [iV 7] [] (c_P_fail l G ad hI σ1 7 hV) (cwV 1 X.2.2.2.2 gX7_works_X7_fail rfl rfl rfl hd_P_fail ⟨x_fr hR.1 rfl, x_fr hR.2 rfl⟩) lx0 cX7 rfl hl.1 rfl (Nat.le_of_ble_eq_true rfl) dX7_works_31 ⟨Nat.zero_le _, Nat.zero_le _⟩ (fun r10 σ9 H locs hV hw => ?_)
      exact hret r10 σ9 H locs ls 34 hV hw dX7_works_34
  · replace hV := hV.2 hc
    refine x_aload_n X dX7_works_7 rfl (lv_at hl 0 rfl) ?_
    refine x_iconst X dX7_works_8 ?_
    refine x_cvi X hw [iV 1] [] (c_P_fail l G ad hI σ1 1 hV) (cwV 1 X.2.2.2.2 gX7_works_X7_fail rfl rfl rfl hd_P_fail ⟨x_fr hR.1 rfl, x_fr hR.2 rfl⟩) lx0 cX7 rfl hl.1 rfl (Nat.le_of_ble_eq_true rfl) dX7_works_9 ⟨Nat.zero_le _, Nat.zero_le _⟩ (fun r12 σ11 H locs hV hw => ?_)
    exact hret r12 σ11 H locs ls 12 hV hw dX7_works_12

theorem n_P_back_0 : Cond.fieldLink RX7 12 "LacePillow" "plan" "LLacePillow$Plan;" ∈ wsX7_back := by decide +kernel
theorem n_P_back_1 : ∀ w ∈ wsX70, w ∈ wsX7_back := by decide +kernel
theorem n_P_back_2 : Cond.fieldLink RX7 169 "LacePillow$Plan" "worked" "I" ∈ wsX7_back := by decide +kernel
theorem n_P_back_3 : ∀ w ∈ wsX20, w ∈ wsX7_back := by decide +kernel
theorem n_P_back_4 : Cond.fieldLink RX7 251 "LacePillow$Plan" "work" "[I" ∈ wsX7_back := by decide +kernel
set_option maxHeartbeats 4000000 in
set_option maxRecDepth 100000 in
theorem c_P_back (l : Launch) (G : GT) (ad : Nat → Nat) (hI : Inj LX ad) (σ : St) {Q : Int → St → Prop} (hV : V_P_back σ Q) : Met l yX7_back wsX7_back (rmx 5 127) (Pq vwCl G LX ad σ [.ref (ad 0)]) (Qi vwCl G LX ad Q) 0 0 (Ax LX ad) := by
  unfold V_P_back at hV
  refine x_meti (own := RX7) (by decide) rfl rfl (Nat.le_of_ble_eq_true rfl) hI ?_
  intro p e s m args below meth c R QQ X hR hret ls hl hw
  replace hl : lv_has ls 1 [(0, .ref (ad 0))] := hl
  obtain ⟨H, hH⟩ : ∃ z, z = s.heap := ⟨_, rfl⟩
  obtain ⟨locs, hlo⟩ : ∃ z : List Loc, z = [] := ⟨_, rfl⟩
  rw [← hH, ← hlo]
  replace hw : Wx vwCl G LX ad s H locs σ := by rw [hH, hlo]; exact hw
  clear hH hlo
  refine x_aload_n X dX7_back_0 rfl (lv_at hl 0 rfl) ?_
  refine x_getr X hw lx0 cX7 0 (by decide) rfl n_P_back_1 n_P_back_0 dX7_back_1 ?_
  refine x_geti X hw lx1 cX2 6 (by decide) rfl n_P_back_3 n_P_back_2 dX7_back_4 ?_
  refine x_if_ne X rfl 16 dX7_back_7 (by decide) (fun hc => ?_) (fun hc => ?_)
  · replace hV := hV.1 hc
    refine x_aload_n X dX7_back_16 rfl (lv_at hl 0 rfl) ?_
    refine x_getr X hw lx0 cX7 0 (by decide) rfl n_P_back_1 n_P_back_0 dX7_back_17 ?_
    refine x_dup X dX7_back_20 rfl ?_
    refine x_geti X hw lx1 cX2 6 (by decide) rfl n_P_back_3 n_P_back_2 dX7_back_21 ?_
    refine x_iconst X dX7_back_24 ?_
    refine x_isub X dX7_back_25 ?_
    refine x_puti X hw lx1 cX2 6 (by decide) rfl n_P_back_3 n_P_back_2 tyX2 tyX2_ok nmX2 rfl rfl rfl dX7_back_26 (fun H locs σ1 hs hw => ?_)
    replace hV := hV σ1 hs
    refine x_aload_n X dX7_back_29 rfl (lv_at hl 0 rfl) ?_
    refine x_cvv X hw [] [] (c_P_replay l G ad hI σ1 hV) (cwV 0 X.2.2.2.2 gX7_back_X7_replay rfl rfl rfl hd_P_replay ⟨x_fr hR.1 rfl, x_fr hR.2 rfl⟩) lx0 cX7 rfl hl.1 rfl (Nat.le_of_ble_eq_true rfl) dX7_back_30 ⟨Nat.zero_le _, Nat.zero_le _⟩ (fun σ2 H locs hV hw => ?_)
    refine x_aload_n X dX7_back_33 rfl (lv_at hl 0 rfl) ?_
    refine x_getr X hw lx0 cX7 0 (by decide) rfl n_P_back_1 n_P_back_0 dX7_back_34 ?_
    refine x_getr X hw lx1 cX2 5 (by decide) rfl n_P_back_3 n_P_back_4 dX7_back_37 ?_
    refine x_aload_n X dX7_back_40 rfl (lv_at hl 0 rfl) ?_
    refine x_getr X hw lx0 cX7 0 (by decide) rfl n_P_back_1 n_P_back_0 dX7_back_41 ?_
    refine x_geti X hw lx1 cX2 6 (by decide) rfl n_P_back_3 n_P_back_2 dX7_back_44 ?_
    obtain ⟨hi, hV⟩ := hV
    refine x_iald X hw lx6 rfl rfl hi dX7_back_47 ?_
    exact hret (σ2 6 (i32 (σ2 1 6))) σ2 H locs ls 48 hV hw dX7_back_48
  · replace hV := hV.2 hc
    refine x_aload_n X dX7_back_10 rfl (lv_at hl 0 rfl) ?_
    refine x_iconst X dX7_back_11 ?_
    refine x_cvi X hw [iV 2] [] (c_P_fail l G ad hI σ 2 hV) (cwV 1 X.2.2.2.2 gX7_back_X7_fail rfl rfl rfl hd_P_fail ⟨x_fr hR.1 rfl, x_fr hR.2 rfl⟩) lx0 cX7 rfl hl.1 rfl (Nat.le_of_ble_eq_true rfl) dX7_back_12 ⟨Nat.zero_le _, Nat.zero_le _⟩ (fun r4 σ3 H locs hV hw => ?_)
    exact hret r4 σ3 H locs ls 15 hV hw dX7_back_15

theorem n_P_worked_0 : Cond.fieldLink RX7 12 "LacePillow" "plan" "LLacePillow$Plan;" ∈ wsX7_worked := by decide +kernel
theorem n_P_worked_1 : ∀ w ∈ wsX70, w ∈ wsX7_worked := by decide +kernel
theorem n_P_worked_2 : Cond.fieldLink RX7 169 "LacePillow$Plan" "worked" "I" ∈ wsX7_worked := by decide +kernel
theorem n_P_worked_3 : ∀ w ∈ wsX20, w ∈ wsX7_worked := by decide +kernel
theorem n_P_worked_4 : Cond.fieldLink RX7 251 "LacePillow$Plan" "work" "[I" ∈ wsX7_worked := by decide +kernel
set_option maxHeartbeats 4000000 in
set_option maxRecDepth 100000 in
theorem c_P_worked (l : Launch) (G : GT) (ad : Nat → Nat) (hI : Inj LX ad) (σ : St) (a1 : Int) {Q : Int → St → Prop} (hV : V_P_worked σ a1 Q) : Met l yX7_worked wsX7_worked (rmx 1 21) (Pq vwCl G LX ad σ [.ref (ad 0), iV a1]) (Qi vwCl G LX ad Q) 0 0 (Ax LX ad) := by
  unfold V_P_worked at hV
  refine x_meti (own := RX7) (by decide) rfl rfl (Nat.le_of_ble_eq_true rfl) hI ?_
  intro p e s m args below meth c R QQ X hR hret ls hl hw
  replace hl : lv_has ls 2 [(0, .ref (ad 0)), (1, iV a1)] := hl
  obtain ⟨H, hH⟩ : ∃ z, z = s.heap := ⟨_, rfl⟩
  obtain ⟨locs, hlo⟩ : ∃ z : List Loc, z = [] := ⟨_, rfl⟩
  rw [← hH, ← hlo]
  replace hw : Wx vwCl G LX ad s H locs σ := by rw [hH, hlo]; exact hw
  clear hH hlo
  refine x_iload_n X dX7_worked_0 rfl (lv_at hl 1 rfl) ?_
  refine x_if_lt X rfl 15 dX7_worked_1 (by decide) (fun hc => ?_) (fun hc => ?_)
  · replace hV := hV.1 hc
    refine x_aload_n X dX7_worked_15 rfl (lv_at hl 0 rfl) ?_
    refine x_iconst X dX7_worked_16 ?_
    refine x_cvi X hw [iV 1] [] (c_P_fail l G ad hI σ 1 hV) (cwV 1 X.2.2.2.2 gX7_worked_X7_fail rfl rfl rfl hd_P_fail ⟨x_fr hR.1 rfl, x_fr hR.2 rfl⟩) lx0 cX7 rfl hl.1 rfl (Nat.le_of_ble_eq_true rfl) dX7_worked_17 ⟨Nat.zero_le _, Nat.zero_le _⟩ (fun r2 σ1 H locs hV hw => ?_)
    exact hret r2 σ1 H locs ls 20 hV hw dX7_worked_20
  · replace hV := hV.2 hc
    refine x_iload_n X dX7_worked_4 rfl (lv_at hl 1 rfl) ?_
    refine x_aload_n X dX7_worked_5 rfl (lv_at hl 0 rfl) ?_
    refine x_getr X hw lx0 cX7 0 (by decide) rfl n_P_worked_1 n_P_worked_0 dX7_worked_6 ?_
    refine x_geti X hw lx1 cX2 6 (by decide) rfl n_P_worked_3 n_P_worked_2 dX7_worked_9 ?_
    refine x_icmp_lt X rfl rfl 21 dX7_worked_12 (by decide) (fun hc => ?_) (fun hc => ?_)
    · replace hV := hV.1 hc
      refine x_aload_n X dX7_worked_21 rfl (lv_at hl 0 rfl) ?_
      refine x_getr X hw lx0 cX7 0 (by decide) rfl n_P_worked_1 n_P_worked_0 dX7_worked_22 ?_
      refine x_getr X hw lx1 cX2 5 (by decide) rfl n_P_worked_3 n_P_worked_4 dX7_worked_25 ?_
      refine x_iload_n X dX7_worked_28 rfl (lv_at hl 1 rfl) ?_
      obtain ⟨hi, hV⟩ := hV
      refine x_iald X hw lx6 rfl rfl hi dX7_worked_29 ?_
      exact hret (σ 6 (i32 a1)) σ H locs ls 30 hV hw dX7_worked_30
    · replace hV := hV.2 hc
      refine x_aload_n X dX7_worked_15 rfl (lv_at hl 0 rfl) ?_
      refine x_iconst X dX7_worked_16 ?_
      refine x_cvi X hw [iV 1] [] (c_P_fail l G ad hI σ 1 hV) (cwV 1 X.2.2.2.2 gX7_worked_X7_fail rfl rfl rfl hd_P_fail ⟨x_fr hR.1 rfl, x_fr hR.2 rfl⟩) lx0 cX7 rfl hl.1 rfl (Nat.le_of_ble_eq_true rfl) dX7_worked_17 ⟨Nat.zero_le _, Nat.zero_le _⟩ (fun r4 σ3 H locs hV hw => ?_)
      exact hret r4 σ3 H locs ls 20 hV hw dX7_worked_20

theorem n_P_isThread_0 : Cond.fieldLink RX7 12 "LacePillow" "plan" "LLacePillow$Plan;" ∈ wsX7_isThread := by decide +kernel
theorem n_P_isThread_1 : ∀ w ∈ wsX70, w ∈ wsX7_isThread := by decide +kernel
theorem n_P_isThread_2 : Cond.fieldLink RX7 84 "LacePillow$Plan" "pairs" "I" ∈ wsX7_isThread := by decide +kernel
theorem n_P_isThread_3 : ∀ w ∈ wsX20, w ∈ wsX7_isThread := by decide +kernel
set_option maxHeartbeats 4000000 in
set_option maxRecDepth 100000 in
theorem c_P_isThread (l : Launch) (G : GT) (ad : Nat → Nat) (hI : Inj LX ad) (σ : St) (a1 : Int) {Q : Int → St → Prop} (hV : V_P_isThread σ a1 Q) : Met l yX7_isThread wsX7_isThread (rmx 0 0) (Pq vwCl G LX ad σ [.ref (ad 0), iV a1]) (Qz vwCl G LX ad Q) 0 0 (Ax LX ad) := by
  unfold V_P_isThread at hV
  refine x_metz (own := RX7) (by decide) rfl rfl (Nat.le_of_ble_eq_true rfl) hI ?_
  intro p e s m args below meth c R QQ X hR hret ls hl hw
  replace hl : lv_has ls 2 [(0, .ref (ad 0)), (1, iV a1)] := hl
  obtain ⟨H, hH⟩ : ∃ z, z = s.heap := ⟨_, rfl⟩
  obtain ⟨locs, hlo⟩ : ∃ z : List Loc, z = [] := ⟨_, rfl⟩
  rw [← hH, ← hlo]
  replace hw : Wx vwCl G LX ad s H locs σ := by rw [hH, hlo]; exact hw
  clear hH hlo
  refine x_iload_n X dX7_isThread_0 rfl (lv_at hl 1 rfl) ?_
  refine x_if_lt X rfl 21 dX7_isThread_1 (by decide) (fun hc => ?_) (fun hc => ?_)
  · replace hV := hV.1 hc
    refine x_iconst X dX7_isThread_21 ?_
    exact hret 0 σ H locs ls 22 (by decide) hV hw dX7_isThread_22
  · replace hV := hV.2 hc
    refine x_iload_n X dX7_isThread_4 rfl (lv_at hl 1 rfl) ?_
    refine x_iconst X dX7_isThread_5 ?_
    refine x_aload_n X dX7_isThread_6 rfl (lv_at hl 0 rfl) ?_
    refine x_getr X hw lx0 cX7 0 (by decide) rfl n_P_isThread_1 n_P_isThread_0 dX7_isThread_7 ?_
    refine x_geti X hw lx1 cX2 0 (by decide) rfl n_P_isThread_3 n_P_isThread_2 dX7_isThread_10 ?_
    refine x_imul X dX7_isThread_13 ?_
    refine x_icmp_ge X rfl rfl 21 dX7_isThread_14 (by decide) (fun hc => ?_) (fun hc => ?_)
    · replace hV := hV.1 hc
      refine x_iconst X dX7_isThread_21 ?_
      exact hret 0 σ H locs ls 22 (by decide) hV hw dX7_isThread_22
    · replace hV := hV.2 hc
      refine x_iconst X dX7_isThread_17 ?_
      refine x_goto X 22 dX7_isThread_18 (by decide) ?_
      exact hret 1 σ H locs ls 22 (by decide) hV hw dX7_isThread_22

theorem n_P_at_0 : Cond.fieldLink RX7 47 "LacePillow" "done" "LLacePillow$Weave;" ∈ wsX7_at := by decide +kernel
theorem n_P_at_1 : ∀ w ∈ wsX70, w ∈ wsX7_at := by decide +kernel
theorem n_P_at_2 : Cond.fieldLink RX7 257 "LacePillow$Weave" "threads" "[I" ∈ wsX7_at := by decide +kernel
theorem n_P_at_3 : ∀ w ∈ wsX60, w ∈ wsX7_at := by decide +kernel
set_option maxHeartbeats 4000000 in
set_option maxRecDepth 100000 in
theorem c_P_at (l : Launch) (G : GT) (ad : Nat → Nat) (hI : Inj LX ad) (σ : St) (a1 : Int) {Q : Int → St → Prop} (hV : V_P_at σ a1 Q) : Met l yX7_at wsX7_at (rmx 1 21) (Pq vwCl G LX ad σ [.ref (ad 0), iV a1]) (Qi vwCl G LX ad Q) 0 0 (Ax LX ad) := by
  unfold V_P_at at hV
  refine x_meti (own := RX7) (by decide) rfl rfl (Nat.le_of_ble_eq_true rfl) hI ?_
  intro p e s m args below meth c R QQ X hR hret ls hl hw
  replace hl : lv_has ls 2 [(0, .ref (ad 0)), (1, iV a1)] := hl
  obtain ⟨H, hH⟩ : ∃ z, z = s.heap := ⟨_, rfl⟩
  obtain ⟨locs, hlo⟩ : ∃ z : List Loc, z = [] := ⟨_, rfl⟩
  rw [← hH, ← hlo]
  replace hw : Wx vwCl G LX ad s H locs σ := by rw [hH, hlo]; exact hw
  clear hH hlo
  refine x_aload_n X dX7_at_0 rfl (lv_at hl 0 rfl) ?_
  refine x_iload_n X dX7_at_1 rfl (lv_at hl 1 rfl) ?_
  refine x_cvz X hw [iV a1] [] (c_P_isThread l G ad hI σ a1 hV) (cwV 1 X.2.2.2.2 gX7_at_X7_isThread rfl rfl rfl hd_P_isThread ⟨x_fr hR.1 rfl, x_fr hR.2 rfl⟩) lx0 cX7 rfl hl.1 rfl (Nat.le_of_ble_eq_true rfl) dX7_at_2 ⟨Nat.zero_le _, Nat.zero_le _⟩ (fun r2 σ1 H locs hr2 hV hw => ?_)
  refine x_if_ne X rfl 14 dX7_at_5 (by decide) (fun hc => ?_) (fun hc => ?_)
  · replace hV := hV.1 hc
    refine x_aload_n X dX7_at_14 rfl (lv_at hl 0 rfl) ?_
    refine x_getr X hw lx0 cX7 6 (by decide) rfl n_P_at_1 n_P_at_0 dX7_at_15 ?_
    refine x_getr X hw lx29 cX6 0 (by decide) rfl n_P_at_3 n_P_at_2 dX7_at_18 ?_
    refine x_iload_n X dX7_at_21 rfl (lv_at hl 1 rfl) ?_
    obtain ⟨hi, hV⟩ := hV
    refine x_iald X hw lx30 rfl rfl hi dX7_at_22 ?_
    exact hret (σ1 30 (i32 a1)) σ1 H locs ls 23 hV hw dX7_at_23
  · replace hV := hV.2 hc
    refine x_aload_n X dX7_at_8 rfl (lv_at hl 0 rfl) ?_
    refine x_iconst X dX7_at_9 ?_
    refine x_cvi X hw [iV 1] [] (c_P_fail l G ad hI σ1 1 hV) (cwV 1 X.2.2.2.2 gX7_at_X7_fail rfl rfl rfl hd_P_fail ⟨x_fr hR.1 rfl, x_fr hR.2 rfl⟩) lx0 cX7 rfl hl.1 rfl (Nat.le_of_ble_eq_true rfl) dX7_at_10 ⟨Nat.zero_le _, Nat.zero_le _⟩ (fun r4 σ3 H locs hV hw => ?_)
    exact hret r4 σ3 H locs ls 13 hV hw dX7_at_13

theorem n_P_wind_0 : Cond.fieldLink RX7 47 "LacePillow" "done" "LLacePillow$Weave;" ∈ wsX7_wind := by decide +kernel
theorem n_P_wind_1 : ∀ w ∈ wsX70, w ∈ wsX7_wind := by decide +kernel
theorem n_P_wind_2 : Cond.fieldLink RX7 260 "LacePillow$Weave" "used" "[I" ∈ wsX7_wind := by decide +kernel
theorem n_P_wind_3 : ∀ w ∈ wsX60, w ∈ wsX7_wind := by decide +kernel
theorem n_P_wind_4 : Cond.fieldLink RX7 12 "LacePillow" "plan" "LLacePillow$Plan;" ∈ wsX7_wind := by decide +kernel
theorem n_P_wind_5 : Cond.fieldLink RX7 263 "LacePillow$Plan" "wound" "[I" ∈ wsX7_wind := by decide +kernel
theorem n_P_wind_6 : ∀ w ∈ wsX20, w ∈ wsX7_wind := by decide +kernel
set_option maxHeartbeats 4000000 in
set_option maxRecDepth 100000 in
theorem c_P_wind (l : Launch) (G : GT) (ad : Nat → Nat) (hI : Inj LX ad) (σ : St) (a1 : Int) (a2 : Int) {Q : Int → St → Prop} (hV : V_P_wind σ a1 a2 Q) : Met l yX7_wind wsX7_wind (rmx 1 21) (Pq vwCl G LX ad σ [.ref (ad 0), iV a1, iV a2]) (Qi vwCl G LX ad Q) 0 0 (Ax LX ad) := by
  unfold V_P_wind at hV
  refine x_meti (own := RX7) (by decide) rfl rfl (Nat.le_of_ble_eq_true rfl) hI ?_
  intro p e s m args below meth c R QQ X hR hret ls hl hw
  replace hl : lv_has ls 4 [(0, .ref (ad 0)), (1, iV a1), (2, iV a2)] := hl
  obtain ⟨H, hH⟩ : ∃ z, z = s.heap := ⟨_, rfl⟩
  obtain ⟨locs, hlo⟩ : ∃ z : List Loc, z = [] := ⟨_, rfl⟩
  rw [← hH, ← hlo]
  replace hw : Wx vwCl G LX ad s H locs σ := by rw [hH, hlo]; exact hw
  clear hH hlo
  refine x_aload_n X dX7_wind_0 rfl (lv_at hl 0 rfl) ?_
  refine x_iload_n X dX7_wind_1 rfl (lv_at hl 1 rfl) ?_
  refine x_cvz X hw [iV a1] [] (c_P_isThread l G ad hI σ a1 hV) (cwV 1 X.2.2.2.2 gX7_wind_X7_isThread rfl rfl rfl hd_P_isThread ⟨x_fr hR.1 rfl, x_fr hR.2 rfl⟩) lx0 cX7 rfl hl.1 rfl (Nat.le_of_ble_eq_true rfl) dX7_wind_2 ⟨Nat.zero_le _, Nat.zero_le _⟩ (fun r2 σ1 H locs hr2 hV hw => ?_)
  refine x_if_eq X rfl 19 dX7_wind_5 (by decide) (fun hc => ?_) (fun hc => ?_)
  · replace hV := hV.1 hc
    refine x_aload_n X dX7_wind_19 rfl (lv_at hl 0 rfl) ?_
    refine x_iconst X dX7_wind_20 ?_
    refine x_cvi X hw [iV 1] [] (c_P_fail l G ad hI σ1 1 hV) (cwV 1 X.2.2.2.2 gX7_wind_X7_fail rfl rfl rfl hd_P_fail ⟨x_fr hR.1 rfl, x_fr hR.2 rfl⟩) lx0 cX7 rfl hl.1 rfl (Nat.le_of_ble_eq_true rfl) dX7_wind_21 ⟨Nat.zero_le _, Nat.zero_le _⟩ (fun r4 σ3 H locs hV hw => ?_)
    exact hret r4 σ3 H locs ls 24 hV hw dX7_wind_24
  · replace hV := hV.2 hc
    refine x_iload_n X dX7_wind_8 rfl (lv_at hl 2 rfl) ?_
    refine x_if_lt X rfl 19 dX7_wind_9 (by decide) (fun hc => ?_) (fun hc => ?_)
    · replace hV := hV.1 hc
      refine x_aload_n X dX7_wind_19 rfl (lv_at hl 0 rfl) ?_
      refine x_iconst X dX7_wind_20 ?_
      refine x_cvi X hw [iV 1] [] (c_P_fail l G ad hI σ1 1 hV) (cwV 1 X.2.2.2.2 gX7_wind_X7_fail rfl rfl rfl hd_P_fail ⟨x_fr hR.1 rfl, x_fr hR.2 rfl⟩) lx0 cX7 rfl hl.1 rfl (Nat.le_of_ble_eq_true rfl) dX7_wind_21 ⟨Nat.zero_le _, Nat.zero_le _⟩ (fun r6 σ5 H locs hV hw => ?_)
      exact hret r6 σ5 H locs ls 24 hV hw dX7_wind_24
    · replace hV := hV.2 hc
      refine x_iload_n X dX7_wind_12 rfl (lv_at hl 2 rfl) ?_
      refine x_sipush X dX7_wind_13 (by decide) ?_
      refine x_icmp_le X rfl k32_9999 25 dX7_wind_16 (by decide) (fun hc => ?_) (fun hc => ?_)
      · replace hV := hV.1 hc
        refine x_aload_n X dX7_wind_25 rfl (lv_at hl 0 rfl) ?_
        refine x_getr X hw lx0 cX7 6 (by decide) rfl n_P_wind_1 n_P_wind_0 dX7_wind_26 ?_
        refine x_getr X hw lx29 cX6 2 (by decide) rfl n_P_wind_3 n_P_wind_2 dX7_wind_29 ?_
        refine x_iload_n X dX7_wind_32 rfl (lv_at hl 1 rfl) ?_
        obtain ⟨hi, hV⟩ := hV
        refine x_iald X hw lx32 rfl rfl hi dX7_wind_33 ?_
        refine x_iload_n X dX7_wind_34 rfl (lv_at hl 2 rfl) ?_
        refine x_icmp_le X rfl rfl 44 dX7_wind_35 (by decide) (fun hc => ?_) (fun hc => ?_)
        · replace hV := hV.1 hc
          refine x_aload_n X dX7_wind_44 rfl (lv_at hl 0 rfl) ?_
          refine x_getr X hw lx0 cX7 0 (by decide) rfl n_P_wind_1 n_P_wind_4 dX7_wind_45 ?_
          refine x_getr X hw lx1 cX2 4 (by decide) rfl n_P_wind_6 n_P_wind_5 dX7_wind_48 ?_
          refine x_iload_n X dX7_wind_51 rfl (lv_at hl 1 rfl) ?_
          obtain ⟨hi, hV⟩ := hV
          refine x_iald X hw lx5 rfl rfl hi dX7_wind_52 ?_
          refine x_bi (fun x3_7 ex3_7 => ?_)
          replace hV := hV x3_7 ex3_7
          clear ex3_7
          refine x_istore_n X [(3, iV x3_7), (0, .ref (ad 0)), (1, iV a1), (2, iV a2)] dX7_wind_53 rfl hl (by decide) rfl (fun ls hl => ?_)
          refine x_aload_n X dX7_wind_54 rfl (lv_at hl 1 rfl) ?_
          refine x_getr X hw lx0 cX7 0 (by decide) rfl n_P_wind_1 n_P_wind_4 dX7_wind_55 ?_
          refine x_getr X hw lx1 cX2 4 (by decide) rfl n_P_wind_6 n_P_wind_5 dX7_wind_58 ?_
          refine x_iload_n X dX7_wind_61 rfl (lv_at hl 2 rfl) ?_
          refine x_iload_n X dX7_wind_62 rfl (lv_at hl 3 rfl) ?_
          obtain ⟨hi, hV⟩ := hV
          refine x_iast X hw lx5 rfl rfl hi dX7_wind_63 (fun H locs σ8 hs hw => ?_)
          replace hV := hV σ8 hs
          refine x_iload_n X dX7_wind_64 rfl (lv_at hl 0 rfl) ?_
          exact hret x3_7 σ8 H locs ls 65 hV hw dX7_wind_65
        · replace hV := hV.2 hc
          refine x_aload_n X dX7_wind_38 rfl (lv_at hl 0 rfl) ?_
          refine x_iconst X dX7_wind_39 ?_
          refine x_cvi X hw [iV 3] [] (c_P_fail l G ad hI σ1 3 hV) (cwV 1 X.2.2.2.2 gX7_wind_X7_fail rfl rfl rfl hd_P_fail ⟨x_fr hR.1 rfl, x_fr hR.2 rfl⟩) lx0 cX7 rfl hl.1 rfl (Nat.le_of_ble_eq_true rfl) dX7_wind_40 ⟨Nat.zero_le _, Nat.zero_le _⟩ (fun r10 σ9 H locs hV hw => ?_)
          exact hret r10 σ9 H locs ls 43 hV hw dX7_wind_43
      · replace hV := hV.2 hc
        refine x_aload_n X dX7_wind_19 rfl (lv_at hl 0 rfl) ?_
        refine x_iconst X dX7_wind_20 ?_
        refine x_cvi X hw [iV 1] [] (c_P_fail l G ad hI σ1 1 hV) (cwV 1 X.2.2.2.2 gX7_wind_X7_fail rfl rfl rfl hd_P_fail ⟨x_fr hR.1 rfl, x_fr hR.2 rfl⟩) lx0 cX7 rfl hl.1 rfl (Nat.le_of_ble_eq_true rfl) dX7_wind_21 ⟨Nat.zero_le _, Nat.zero_le _⟩ (fun r12 σ11 H locs hV hw => ?_)
        exact hret r12 σ11 H locs ls 24 hV hw dX7_wind_24

theorem n_P_thinkStitches_0 : Cond.fieldLink RX7 54 "LacePillow" "thoughtStitches" "I" ∈ wsX7_thinkStitches := by decide +kernel
theorem n_P_thinkStitches_1 : ∀ w ∈ wsX70, w ∈ wsX7_thinkStitches := by decide +kernel
theorem n_P_thinkStitches_2 : Cond.fieldLink RX7 51 "LacePillow" "thought" "LLacePillow$Weave;" ∈ wsX7_thinkStitches := by decide +kernel
theorem n_P_thinkStitches_3 : Cond.fieldLink RX7 12 "LacePillow" "plan" "LLacePillow$Plan;" ∈ wsX7_thinkStitches := by decide +kernel
theorem n_P_thinkStitches_4 : Cond.fieldLink RX7 33 "LacePillow" "ground" "LLacePillow$Ground;" ∈ wsX7_thinkStitches := by decide +kernel
theorem n_P_thinkStitches_5 : Cond.fieldLink RX7 188 "LacePillow$Ground" "kinds" "[I" ∈ wsX7_thinkStitches := by decide +kernel
theorem n_P_thinkStitches_6 : ∀ w ∈ wsX00, w ∈ wsX7_thinkStitches := by decide +kernel
theorem n_P_thinkStitches_7 : Cond.fieldLink RX7 185 "LacePillow$Ground" "gaps" "[I" ∈ wsX7_thinkStitches := by decide +kernel
set_option maxHeartbeats 4000000 in
set_option maxRecDepth 100000 in
theorem c_P_thinkStitches (l : Launch) (G : GT) (ad : Nat → Nat) (hI : Inj LX ad) (σ : St) (a1 : Int) {Q : St → Prop} (hV : V_P_thinkStitches σ a1 Q) : Met l yX7_thinkStitches wsX7_thinkStitches (rmx 4 105) (Pq vwCl G LX ad σ [.ref (ad 0), iV a1]) (Qv vwCl G LX ad Q) 0 0 (Ax LX ad) := by
  unfold V_P_thinkStitches at hV
  refine x_metv (own := RX7) (by decide) rfl rfl (Nat.le_of_ble_eq_true rfl) hI ?_
  intro p e s m args below meth c R QQ X hR hret ls hl hw
  replace hl : lv_has ls 3 [(0, .ref (ad 0)), (1, iV a1)] := hl
  obtain ⟨H, hH⟩ : ∃ z, z = s.heap := ⟨_, rfl⟩
  obtain ⟨locs, hlo⟩ : ∃ z : List Loc, z = [] := ⟨_, rfl⟩
  rw [← hH, ← hlo]
  replace hw : Wx vwCl G LX ad s H locs σ := by rw [hH, hlo]; exact hw
  clear hH hlo
  refine x_aload_n X dX7_thinkStitches_0 rfl (lv_at hl 0 rfl) ?_
  refine x_geti X hw lx0 cX7 8 (by decide) rfl n_P_thinkStitches_1 n_P_thinkStitches_0 dX7_thinkStitches_1 ?_
  have hJ27 : ∀ (σ1 : St) (H : Heap) (locs : List Loc) (ls : Array Slot), J_P_thinkStitches_27 a1 Q σ1 → Wx vwCl G LX ad s H locs σ1 → lv_has ls 3 [(0, .ref (ad 0)), (1, iV a1)] → W p l e R s m args below meth c H locs 0 0 QQ (F0 m 27 ls []) := by
    intro σ1 H locs ls hV hw hl
    unfold J_P_thinkStitches_27 at hV
    refine x_aload_n X dX7_thinkStitches_27 rfl (lv_at hl 0 rfl) ?_
    refine x_geti X hw lx0 cX7 8 (by decide) rfl n_P_thinkStitches_1 n_P_thinkStitches_0 dX7_thinkStitches_28 ?_
    refine x_bi (fun x2_2 ex2_2 => ?_)
    replace hV := hV x2_2 ex2_2
    clear ex2_2
    refine x_istore_n X [(2, iV x2_2), (0, .ref (ad 0)), (1, iV a1)] dX7_thinkStitches_31 rfl hl (by decide) rfl (fun ls hl => ?_)
    refine WL1.use (Gl := fun x2_3 σ4 => ∀ (H : Heap) (locs : List Loc) (ls : Array Slot), Wx vwCl G LX ad s H locs σ4 → lv_has ls 3 [(2, iV x2_3), (0, .ref (ad 0)), (1, iV a1)] → W p l e R s m args below meth c H locs 0 0 QQ (F0 m 32 ls [])) ?_ hV H locs ls hw hl
    clear hV hw hl H locs ls
    intro bk5 x2_3 σ4 hbk5 hV H locs ls hw hl
    refine x_iload_n X dX7_thinkStitches_32 rfl (lv_at hl 0 rfl) ?_
    refine x_iload_n X dX7_thinkStitches_33 rfl (lv_at hl 2 rfl) ?_
    refine x_icmp_ge X rfl rfl 72 dX7_thinkStitches_34 (by decide) (fun hc => ?_) (fun hc => ?_)
    · replace hV := hV.1 hc
      refine x_aload_n X dX7_thinkStitches_72 rfl (lv_at hl 1 rfl) ?_
      refine x_iload_n X dX7_thinkStitches_73 rfl (lv_at hl 2 rfl) ?_
      refine x_puti X hw lx0 cX7 8 (by decide) rfl n_P_thinkStitches_1 n_P_thinkStitches_0 tyX7 tyX7_ok nmX7 rfl rfl rfl dX7_thinkStitches_74 (fun H locs σ6 hs hw => ?_)
      replace hV := hV σ6 hs
      exact hret σ6 H locs ls 77 hV hw dX7_thinkStitches_77
    · replace hV := hV.2 hc
      refine x_aload_n X dX7_thinkStitches_37 rfl (lv_at hl 1 rfl) ?_
      refine x_getr X hw lx0 cX7 7 (by decide) rfl n_P_thinkStitches_1 n_P_thinkStitches_2 dX7_thinkStitches_38 ?_
      refine x_aload_n X dX7_thinkStitches_41 rfl (lv_at hl 1 rfl) ?_
      refine x_getr X hw lx0 cX7 0 (by decide) rfl n_P_thinkStitches_1 n_P_thinkStitches_3 dX7_thinkStitches_42 ?_
      refine x_aload_n X dX7_thinkStitches_45 rfl (lv_at hl 1 rfl) ?_
      refine x_getr X hw lx0 cX7 4 (by decide) rfl n_P_thinkStitches_1 n_P_thinkStitches_4 dX7_thinkStitches_46 ?_
      refine x_getr X hw lx16 cX0 4 (by decide) rfl n_P_thinkStitches_6 n_P_thinkStitches_5 dX7_thinkStitches_49 ?_
      refine x_iload_n X dX7_thinkStitches_52 rfl (lv_at hl 0 rfl) ?_
      obtain ⟨hi, hV⟩ := hV
      refine x_iald X hw lx19 rfl rfl hi dX7_thinkStitches_53 ?_
      refine x_aload_n X dX7_thinkStitches_54 rfl (lv_at hl 1 rfl) ?_
      refine x_getr X hw lx0 cX7 4 (by decide) rfl n_P_thinkStitches_1 n_P_thinkStitches_4 dX7_thinkStitches_55 ?_
      refine x_getr X hw lx16 cX0 3 (by decide) rfl n_P_thinkStitches_6 n_P_thinkStitches_7 dX7_thinkStitches_58 ?_
      refine x_iload_n X dX7_thinkStitches_61 rfl (lv_at hl 0 rfl) ?_
      obtain ⟨hi, hV⟩ := hV
      refine x_iald X hw lx18 rfl rfl hi dX7_thinkStitches_62 ?_
      refine x_cvv X hw [.ref (ad 1), iV (σ4 19 (i32 x2_3)), iV (σ4 18 (i32 x2_3))] [] (c_Weave_make l G ad hI 41 isWeave41 σ4 (σ4 19 (i32 x2_3)) (σ4 18 (i32 x2_3)) hV) (cwV 3 X.2.2.2.2 gX7_thinkStitches_X6_make rfl rfl rfl hd_Weave_make ⟨x_fr hR.1 rfl, x_fr hR.2 rfl⟩) lx41 cX6 rfl hl.1 rfl (Nat.le_of_ble_eq_true rfl) dX7_thinkStitches_63 ⟨Nat.zero_le _, Nat.zero_le _⟩ (fun σ7 H locs hV hw => ?_)
      refine x_iinc X (k := 0) (x2_3 + 1) [(2, iV (x2_3 + 1)), (0, .ref (ad 0)), (1, iV a1)] dX7_thinkStitches_66 hl rfl rfl (by decide) rfl (fun ls hl => ?_)
      refine x_goto X 32 dX7_thinkStitches_69 (by decide) ?_
      exact hbk5 (x2_3 + 1) σ7 hV H locs ls hw hl
  have hJ15 : ∀ (σ8 : St) (H : Heap) (locs : List Loc) (ls : Array Slot), J_P_thinkStitches_15 a1 Q σ8 → Wx vwCl G LX ad s H locs σ8 → lv_has ls 3 [(0, .ref (ad 0)), (1, iV a1)] → W p l e R s m args below meth c H locs 0 0 QQ (F0 m 15 ls []) := by
    intro σ8 H locs ls hV hw hl
    unfold J_P_thinkStitches_15 at hV
    refine x_aload_n X dX7_thinkStitches_15 rfl (lv_at hl 0 rfl) ?_
    refine x_getr X hw lx0 cX7 7 (by decide) rfl n_P_thinkStitches_1 n_P_thinkStitches_2 dX7_thinkStitches_16 ?_
    refine x_cvv X hw [] [] (c_Weave_clear l G ad hI 41 isWeave41 σ8 hV) (cwV 0 X.2.2.2.2 gX7_thinkStitches_X6_clear rfl rfl rfl hd_Weave_clear ⟨x_fr hR.1 rfl, x_fr hR.2 rfl⟩) lx41 cX6 rfl hl.1 rfl (Nat.le_of_ble_eq_true rfl) dX7_thinkStitches_19 ⟨Nat.zero_le _, Nat.zero_le _⟩ (fun σ9 H locs hV hw => ?_)
    refine x_aload_n X dX7_thinkStitches_22 rfl (lv_at hl 0 rfl) ?_
    refine x_iconst X dX7_thinkStitches_23 ?_
    refine x_puti X hw lx0 cX7 8 (by decide) rfl n_P_thinkStitches_1 n_P_thinkStitches_0 tyX7 tyX7_ok nmX7 rfl rfl rfl dX7_thinkStitches_24 (fun H locs σ10 hs hw => ?_)
    replace hV := hV σ10 hs
    exact hJ27 σ10 H locs ls hV hw hl
  refine x_if_lt X rfl 15 dX7_thinkStitches_4 (by decide) (fun hc => ?_) (fun hc => ?_)
  · replace hV := hV.1 hc
    exact hJ15 σ H locs ls hV hw hl
  · replace hV := hV.2 hc
    refine x_aload_n X dX7_thinkStitches_7 rfl (lv_at hl 0 rfl) ?_
    refine x_geti X hw lx0 cX7 8 (by decide) rfl n_P_thinkStitches_1 n_P_thinkStitches_0 dX7_thinkStitches_8 ?_
    refine x_iload_n X dX7_thinkStitches_11 rfl (lv_at hl 1 rfl) ?_
    refine x_icmp_le X rfl rfl 27 dX7_thinkStitches_12 (by decide) (fun hc => ?_) (fun hc => ?_)
    · replace hV := hV.1 hc
      exact hJ27 σ H locs ls hV hw hl
    · replace hV := hV.2 hc
      exact hJ15 σ H locs ls hV hw hl

theorem n_P_thread_0 : Cond.fieldLink RX7 33 "LacePillow" "ground" "LLacePillow$Ground;" ∈ wsX7_thread := by decide +kernel
theorem n_P_thread_1 : ∀ w ∈ wsX70, w ∈ wsX7_thread := by decide +kernel
theorem n_P_thread_2 : Cond.fieldLink RX7 119 "LacePillow$Ground" "size" "I" ∈ wsX7_thread := by decide +kernel
theorem n_P_thread_3 : ∀ w ∈ wsX00, w ∈ wsX7_thread := by decide +kernel
theorem n_P_thread_4 : Cond.fieldLink RX7 51 "LacePillow" "thought" "LLacePillow$Weave;" ∈ wsX7_thread := by decide +kernel
theorem n_P_thread_5 : Cond.fieldLink RX7 260 "LacePillow$Weave" "used" "[I" ∈ wsX7_thread := by decide +kernel
theorem n_P_thread_6 : ∀ w ∈ wsX60, w ∈ wsX7_thread := by decide +kernel
theorem n_P_thread_7 : Cond.fieldLink RX7 272 "LacePillow$Weave" "overs" "[I" ∈ wsX7_thread := by decide +kernel
theorem n_P_thread_8 : Cond.fieldLink RX7 275 "LacePillow$Weave" "unders" "[I" ∈ wsX7_thread := by decide +kernel
theorem n_P_thread_9 : Cond.fieldLink RX7 278 "LacePillow$Weave" "falses" "[I" ∈ wsX7_thread := by decide +kernel
theorem n_P_thread_10 : Cond.fieldLink RX7 47 "LacePillow" "done" "LLacePillow$Weave;" ∈ wsX7_thread := by decide +kernel
theorem n_P_thread_11 : Cond.fieldLink RX7 150 "LacePillow$Weave" "places" "[I" ∈ wsX7_thread := by decide +kernel
theorem n_P_thread_12 : Cond.fieldLink RX7 12 "LacePillow" "plan" "LLacePillow$Plan;" ∈ wsX7_thread := by decide +kernel
theorem n_P_thread_13 : Cond.fieldLink RX7 263 "LacePillow$Plan" "wound" "[I" ∈ wsX7_thread := by decide +kernel
theorem n_P_thread_14 : ∀ w ∈ wsX20, w ∈ wsX7_thread := by decide +kernel
set_option maxHeartbeats 4000000 in
set_option maxRecDepth 100000 in
theorem c_P_thread (l : Launch) (G : GT) (ad : Nat → Nat) (hI : Inj LX ad) (σ : St) (a1 : Int) (a2 : Int) {Q : Int → St → Prop} (hV : V_P_thread σ a1 a2 Q) : Met l yX7_thread wsX7_thread (rmx 5 127) (Pq vwCl G LX ad σ [.ref (ad 0), iV a1, iV a2]) (Qi vwCl G LX ad Q) 0 0 (Ax LX ad) := by
  unfold V_P_thread at hV
  refine x_meti (own := RX7) (by decide) rfl rfl (Nat.le_of_ble_eq_true rfl) hI ?_
  intro p e s m args below meth c R QQ X hR hret ls hl hw
  replace hl : lv_has ls 3 [(0, .ref (ad 0)), (1, iV a1), (2, iV a2)] := hl
  obtain ⟨H, hH⟩ : ∃ z, z = s.heap := ⟨_, rfl⟩
  obtain ⟨locs, hlo⟩ : ∃ z : List Loc, z = [] := ⟨_, rfl⟩
  rw [← hH, ← hlo]
  replace hw : Wx vwCl G LX ad s H locs σ := by rw [hH, hlo]; exact hw
  clear hH hlo
  refine x_aload_n X dX7_thread_0 rfl (lv_at hl 0 rfl) ?_
  refine x_iload_n X dX7_thread_1 rfl (lv_at hl 1 rfl) ?_
  refine x_cvz X hw [iV a1] [] (c_P_isThread l G ad hI σ a1 hV) (cwV 1 X.2.2.2.2 gX7_thread_X7_isThread rfl rfl rfl hd_P_isThread ⟨x_fr hR.1 rfl, x_fr hR.2 rfl⟩) lx0 cX7 rfl hl.1 rfl (Nat.le_of_ble_eq_true rfl) dX7_thread_2 ⟨Nat.zero_le _, Nat.zero_le _⟩ (fun r2 σ1 H locs hr2 hV hw => ?_)
  refine x_if_eq X rfl 18 dX7_thread_5 (by decide) (fun hc => ?_) (fun hc => ?_)
  · replace hV := hV.1 hc
    refine x_aload_n X dX7_thread_18 rfl (lv_at hl 0 rfl) ?_
    refine x_iconst X dX7_thread_19 ?_
    refine x_cvi X hw [iV 1] [] (c_P_fail l G ad hI σ1 1 hV) (cwV 1 X.2.2.2.2 gX7_thread_X7_fail rfl rfl rfl hd_P_fail ⟨x_fr hR.1 rfl, x_fr hR.2 rfl⟩) lx0 cX7 rfl hl.1 rfl (Nat.le_of_ble_eq_true rfl) dX7_thread_20 ⟨Nat.zero_le _, Nat.zero_le _⟩ (fun r4 σ3 H locs hV hw => ?_)
    exact hret r4 σ3 H locs ls 23 hV hw dX7_thread_23
  · replace hV := hV.2 hc
    refine x_iload_n X dX7_thread_8 rfl (lv_at hl 2 rfl) ?_
    refine x_if_lt X rfl 18 dX7_thread_9 (by decide) (fun hc => ?_) (fun hc => ?_)
    · replace hV := hV.1 hc
      refine x_aload_n X dX7_thread_18 rfl (lv_at hl 0 rfl) ?_
      refine x_iconst X dX7_thread_19 ?_
      refine x_cvi X hw [iV 1] [] (c_P_fail l G ad hI σ1 1 hV) (cwV 1 X.2.2.2.2 gX7_thread_X7_fail rfl rfl rfl hd_P_fail ⟨x_fr hR.1 rfl, x_fr hR.2 rfl⟩) lx0 cX7 rfl hl.1 rfl (Nat.le_of_ble_eq_true rfl) dX7_thread_20 ⟨Nat.zero_le _, Nat.zero_le _⟩ (fun r6 σ5 H locs hV hw => ?_)
      exact hret r6 σ5 H locs ls 23 hV hw dX7_thread_23
    · replace hV := hV.2 hc
      refine x_iload_n X dX7_thread_12 rfl (lv_at hl 2 rfl) ?_
      refine x_bipush X dX7_thread_13 (by decide) ?_
      refine x_icmp_le X rfl k32_7 24 dX7_thread_15 (by decide) (fun hc => ?_) (fun hc => ?_)
      · replace hV := hV.1 hc
        refine x_iload_n X dX7_thread_24 rfl (lv_at hl 2 rfl) ?_
        refine x_if_ne X rfl 38 dX7_thread_25 (by decide) (fun hc => ?_) (fun hc => ?_)
        · replace hV := hV.1 hc
          refine x_iload_n X dX7_thread_38 rfl (lv_at hl 2 rfl) ?_
          refine x_iconst X dX7_thread_39 ?_
          refine x_icmp_ne X rfl k32_1 63 dX7_thread_40 (by decide) (fun hc => ?_) (fun hc => ?_)
          · replace hV := hV.1 hc
            refine x_iload_n X dX7_thread_63 rfl (lv_at hl 2 rfl) ?_
            refine x_iconst X dX7_thread_64 ?_
            refine x_icmp_ne X rfl k32_2 78 dX7_thread_65 (by decide) (fun hc => ?_) (fun hc => ?_)
            · replace hV := hV.1 hc
              refine x_aload_n X dX7_thread_78 rfl (lv_at hl 0 rfl) ?_
              refine x_aload_n X dX7_thread_79 rfl (lv_at hl 0 rfl) ?_
              refine x_getr X hw lx0 cX7 4 (by decide) rfl n_P_thread_1 n_P_thread_0 dX7_thread_80 ?_
              refine x_geti X hw lx16 cX0 0 (by decide) rfl n_P_thread_3 n_P_thread_2 dX7_thread_83 ?_
              refine x_cvv X hw [iV (σ1 16 0)] [] (c_P_thinkStitches l G ad hI σ1 (σ1 16 0) hV) (cwV 1 X.2.2.2.2 gX7_thread_X7_thinkStitches rfl rfl rfl hd_P_thinkStitches ⟨x_fr hR.1 rfl, x_fr hR.2 rfl⟩) lx0 cX7 rfl hl.1 rfl (Nat.le_of_ble_eq_true rfl) dX7_thread_86 ⟨Nat.zero_le _, Nat.zero_le _⟩ (fun σ7 H locs hV hw => ?_)
              refine x_iload_n X dX7_thread_89 rfl (lv_at hl 2 rfl) ?_
              by_cases hc0 : i32 a2 = 3
              · replace hV := hV.1 hc0
                refine x_tabIn X 3 120 dX7_thread_90 (hc0) (by decide) (by decide) rfl (by decide) ?_
                refine x_aload_n X dX7_thread_120 rfl (lv_at hl 0 rfl) ?_
                refine x_getr X hw lx0 cX7 7 (by decide) rfl n_P_thread_1 n_P_thread_4 dX7_thread_121 ?_
                refine x_iload_n X dX7_thread_124 rfl (lv_at hl 1 rfl) ?_
                refine x_cvi X hw [iV a1] [] (c_Weave_turnsOf l G ad hI 41 isWeave41 σ7 a1 hV) (cwV 1 X.2.2.2.2 gX7_thread_X6_turnsOf rfl rfl rfl hd_Weave_turnsOf ⟨x_fr hR.1 rfl, x_fr hR.2 rfl⟩) lx41 cX6 rfl hl.1 rfl (Nat.le_of_ble_eq_true rfl) dX7_thread_125 ⟨Nat.zero_le _, Nat.zero_le _⟩ (fun r9 σ8 H locs hV hw => ?_)
                exact hret r9 σ8 H locs ls 128 hV hw dX7_thread_128
              by_cases hc1 : i32 a2 = 4
              · replace hV := hV.2.1 hc1
                refine x_tabIn X 4 129 dX7_thread_90 (hc1) (by decide) (by decide) rfl (by decide) ?_
                refine x_aload_n X dX7_thread_129 rfl (lv_at hl 0 rfl) ?_
                refine x_getr X hw lx0 cX7 7 (by decide) rfl n_P_thread_1 n_P_thread_4 dX7_thread_130 ?_
                refine x_getr X hw lx41 cX6 2 (by decide) rfl n_P_thread_6 n_P_thread_5 dX7_thread_133 ?_
                refine x_iload_n X dX7_thread_136 rfl (lv_at hl 1 rfl) ?_
                obtain ⟨hi, hV⟩ := hV
                refine x_iald X hw lx44 rfl rfl hi dX7_thread_137 ?_
                exact hret (σ7 44 (i32 a1)) σ7 H locs ls 138 hV hw dX7_thread_138
              by_cases hc2 : i32 a2 = 5
              · replace hV := hV.2.2.1 hc2
                refine x_tabIn X 5 139 dX7_thread_90 (hc2) (by decide) (by decide) rfl (by decide) ?_
                refine x_aload_n X dX7_thread_139 rfl (lv_at hl 0 rfl) ?_
                refine x_getr X hw lx0 cX7 7 (by decide) rfl n_P_thread_1 n_P_thread_4 dX7_thread_140 ?_
                refine x_getr X hw lx41 cX6 3 (by decide) rfl n_P_thread_6 n_P_thread_7 dX7_thread_143 ?_
                refine x_iload_n X dX7_thread_146 rfl (lv_at hl 1 rfl) ?_
                obtain ⟨hi, hV⟩ := hV
                refine x_iald X hw lx45 rfl rfl hi dX7_thread_147 ?_
                exact hret (σ7 45 (i32 a1)) σ7 H locs ls 148 hV hw dX7_thread_148
              by_cases hc3 : i32 a2 = 6
              · replace hV := hV.2.2.2.1 hc3
                refine x_tabIn X 6 149 dX7_thread_90 (hc3) (by decide) (by decide) rfl (by decide) ?_
                refine x_aload_n X dX7_thread_149 rfl (lv_at hl 0 rfl) ?_
                refine x_getr X hw lx0 cX7 7 (by decide) rfl n_P_thread_1 n_P_thread_4 dX7_thread_150 ?_
                refine x_getr X hw lx41 cX6 4 (by decide) rfl n_P_thread_6 n_P_thread_8 dX7_thread_153 ?_
                refine x_iload_n X dX7_thread_156 rfl (lv_at hl 1 rfl) ?_
                obtain ⟨hi, hV⟩ := hV
                refine x_iald X hw lx46 rfl rfl hi dX7_thread_157 ?_
                exact hret (σ7 46 (i32 a1)) σ7 H locs ls 158 hV hw dX7_thread_158
              have hc : i32 a2 < 3 ∨ 6 < i32 a2 := by omega
              replace hV := hV.2.2.2.2 hc
              refine x_tabOut X 159 dX7_thread_90 hc (by decide) ?_
              refine x_aload_n X dX7_thread_159 rfl (lv_at hl 0 rfl) ?_
              refine x_getr X hw lx0 cX7 7 (by decide) rfl n_P_thread_1 n_P_thread_4 dX7_thread_160 ?_
              refine x_getr X hw lx41 cX6 5 (by decide) rfl n_P_thread_6 n_P_thread_9 dX7_thread_163 ?_
              refine x_iload_n X dX7_thread_166 rfl (lv_at hl 1 rfl) ?_
              obtain ⟨hi, hV⟩ := hV
              refine x_iald X hw lx47 rfl rfl hi dX7_thread_167 ?_
              exact hret (σ7 47 (i32 a1)) σ7 H locs ls 168 hV hw dX7_thread_168
            · replace hV := hV.2 hc
              refine x_aload_n X dX7_thread_68 rfl (lv_at hl 0 rfl) ?_
              refine x_getr X hw lx0 cX7 6 (by decide) rfl n_P_thread_1 n_P_thread_10 dX7_thread_69 ?_
              refine x_getr X hw lx29 cX6 1 (by decide) rfl n_P_thread_6 n_P_thread_11 dX7_thread_72 ?_
              refine x_iload_n X dX7_thread_75 rfl (lv_at hl 1 rfl) ?_
              obtain ⟨hi, hV⟩ := hV
              refine x_iald X hw lx31 rfl rfl hi dX7_thread_76 ?_
              exact hret (σ1 31 (i32 a1)) σ1 H locs ls 77 hV hw dX7_thread_77
          · replace hV := hV.2 hc
            refine x_aload_n X dX7_thread_43 rfl (lv_at hl 0 rfl) ?_
            refine x_getr X hw lx0 cX7 0 (by decide) rfl n_P_thread_1 n_P_thread_12 dX7_thread_44 ?_
            refine x_getr X hw lx1 cX2 4 (by decide) rfl n_P_thread_14 n_P_thread_13 dX7_thread_47 ?_
            refine x_iload_n X dX7_thread_50 rfl (lv_at hl 1 rfl) ?_
            obtain ⟨hi, hV⟩ := hV
            refine x_iald X hw lx5 rfl rfl hi dX7_thread_51 ?_
            refine x_aload_n X dX7_thread_52 rfl (lv_at hl 0 rfl) ?_
            refine x_getr X hw lx0 cX7 6 (by decide) rfl n_P_thread_1 n_P_thread_10 dX7_thread_53 ?_
            refine x_getr X hw lx29 cX6 2 (by decide) rfl n_P_thread_6 n_P_thread_5 dX7_thread_56 ?_
            refine x_iload_n X dX7_thread_59 rfl (lv_at hl 1 rfl) ?_
            obtain ⟨hi, hV⟩ := hV
            refine x_iald X hw lx32 rfl rfl hi dX7_thread_60 ?_
            refine x_isub X dX7_thread_61 ?_
            exact hret ((σ1 5 (i32 a1)) - (σ1 32 (i32 a1))) σ1 H locs ls 62 hV hw dX7_thread_62
        · replace hV := hV.2 hc
          refine x_aload_n X dX7_thread_28 rfl (lv_at hl 0 rfl) ?_
          refine x_getr X hw lx0 cX7 0 (by decide) rfl n_P_thread_1 n_P_thread_12 dX7_thread_29 ?_
          refine x_getr X hw lx1 cX2 4 (by decide) rfl n_P_thread_14 n_P_thread_13 dX7_thread_32 ?_
          refine x_iload_n X dX7_thread_35 rfl (lv_at hl 1 rfl) ?_
          obtain ⟨hi, hV⟩ := hV
          refine x_iald X hw lx5 rfl rfl hi dX7_thread_36 ?_
          exact hret (σ1 5 (i32 a1)) σ1 H locs ls 37 hV hw dX7_thread_37
      · replace hV := hV.2 hc
        refine x_aload_n X dX7_thread_18 rfl (lv_at hl 0 rfl) ?_
        refine x_iconst X dX7_thread_19 ?_
        refine x_cvi X hw [iV 1] [] (c_P_fail l G ad hI σ1 1 hV) (cwV 1 X.2.2.2.2 gX7_thread_X7_fail rfl rfl rfl hd_P_fail ⟨x_fr hR.1 rfl, x_fr hR.2 rfl⟩) lx0 cX7 rfl hl.1 rfl (Nat.le_of_ble_eq_true rfl) dX7_thread_20 ⟨Nat.zero_le _, Nat.zero_le _⟩ (fun r11 σ10 H locs hV hw => ?_)
        exact hret r11 σ10 H locs ls 23 hV hw dX7_thread_23

theorem n_P_place_0 : Cond.fieldLink RX7 33 "LacePillow" "ground" "LLacePillow$Ground;" ∈ wsX7_place := by decide +kernel
theorem n_P_place_1 : ∀ w ∈ wsX70, w ∈ wsX7_place := by decide +kernel
theorem n_P_place_2 : Cond.fieldLink RX7 119 "LacePillow$Ground" "size" "I" ∈ wsX7_place := by decide +kernel
theorem n_P_place_3 : ∀ w ∈ wsX00, w ∈ wsX7_place := by decide +kernel
theorem n_P_place_4 : Cond.fieldLink RX7 51 "LacePillow" "thought" "LLacePillow$Weave;" ∈ wsX7_place := by decide +kernel
theorem n_P_place_5 : Cond.fieldLink RX7 150 "LacePillow$Weave" "places" "[I" ∈ wsX7_place := by decide +kernel
theorem n_P_place_6 : ∀ w ∈ wsX60, w ∈ wsX7_place := by decide +kernel
set_option maxHeartbeats 4000000 in
set_option maxRecDepth 100000 in
theorem c_P_place (l : Launch) (G : GT) (ad : Nat → Nat) (hI : Inj LX ad) (σ : St) (a1 : Int) (a2 : Int) {Q : Int → St → Prop} (hV : V_P_place σ a1 a2 Q) : Met l yX7_place wsX7_place (rmx 5 127) (Pq vwCl G LX ad σ [.ref (ad 0), iV a1, iV a2]) (Qi vwCl G LX ad Q) 0 0 (Ax LX ad) := by
  unfold V_P_place at hV
  refine x_meti (own := RX7) (by decide) rfl rfl (Nat.le_of_ble_eq_true rfl) hI ?_
  intro p e s m args below meth c R QQ X hR hret ls hl hw
  replace hl : lv_has ls 3 [(0, .ref (ad 0)), (1, iV a1), (2, iV a2)] := hl
  obtain ⟨H, hH⟩ : ∃ z, z = s.heap := ⟨_, rfl⟩
  obtain ⟨locs, hlo⟩ : ∃ z : List Loc, z = [] := ⟨_, rfl⟩
  rw [← hH, ← hlo]
  replace hw : Wx vwCl G LX ad s H locs σ := by rw [hH, hlo]; exact hw
  clear hH hlo
  refine x_aload_n X dX7_place_0 rfl (lv_at hl 0 rfl) ?_
  refine x_iload_n X dX7_place_1 rfl (lv_at hl 1 rfl) ?_
  refine x_cvz X hw [iV a1] [] (c_P_isThread l G ad hI σ a1 hV) (cwV 1 X.2.2.2.2 gX7_place_X7_isThread rfl rfl rfl hd_P_isThread ⟨x_fr hR.1 rfl, x_fr hR.2 rfl⟩) lx0 cX7 rfl hl.1 rfl (Nat.le_of_ble_eq_true rfl) dX7_place_2 ⟨Nat.zero_le _, Nat.zero_le _⟩ (fun r2 σ1 H locs hr2 hV hw => ?_)
  refine x_if_eq X rfl 23 dX7_place_5 (by decide) (fun hc => ?_) (fun hc => ?_)
  · replace hV := hV.1 hc
    refine x_aload_n X dX7_place_23 rfl (lv_at hl 0 rfl) ?_
    refine x_iconst X dX7_place_24 ?_
    refine x_cvi X hw [iV 1] [] (c_P_fail l G ad hI σ1 1 hV) (cwV 1 X.2.2.2.2 gX7_place_X7_fail rfl rfl rfl hd_P_fail ⟨x_fr hR.1 rfl, x_fr hR.2 rfl⟩) lx0 cX7 rfl hl.1 rfl (Nat.le_of_ble_eq_true rfl) dX7_place_25 ⟨Nat.zero_le _, Nat.zero_le _⟩ (fun r4 σ3 H locs hV hw => ?_)
    exact hret r4 σ3 H locs ls 28 hV hw dX7_place_28
  · replace hV := hV.2 hc
    refine x_iload_n X dX7_place_8 rfl (lv_at hl 2 rfl) ?_
    refine x_if_lt X rfl 23 dX7_place_9 (by decide) (fun hc => ?_) (fun hc => ?_)
    · replace hV := hV.1 hc
      refine x_aload_n X dX7_place_23 rfl (lv_at hl 0 rfl) ?_
      refine x_iconst X dX7_place_24 ?_
      refine x_cvi X hw [iV 1] [] (c_P_fail l G ad hI σ1 1 hV) (cwV 1 X.2.2.2.2 gX7_place_X7_fail rfl rfl rfl hd_P_fail ⟨x_fr hR.1 rfl, x_fr hR.2 rfl⟩) lx0 cX7 rfl hl.1 rfl (Nat.le_of_ble_eq_true rfl) dX7_place_25 ⟨Nat.zero_le _, Nat.zero_le _⟩ (fun r6 σ5 H locs hV hw => ?_)
      exact hret r6 σ5 H locs ls 28 hV hw dX7_place_28
    · replace hV := hV.2 hc
      refine x_iload_n X dX7_place_12 rfl (lv_at hl 2 rfl) ?_
      refine x_aload_n X dX7_place_13 rfl (lv_at hl 0 rfl) ?_
      refine x_getr X hw lx0 cX7 4 (by decide) rfl n_P_place_1 n_P_place_0 dX7_place_14 ?_
      refine x_geti X hw lx16 cX0 0 (by decide) rfl n_P_place_3 n_P_place_2 dX7_place_17 ?_
      refine x_icmp_le X rfl rfl 29 dX7_place_20 (by decide) (fun hc => ?_) (fun hc => ?_)
      · replace hV := hV.1 hc
        refine x_aload_n X dX7_place_29 rfl (lv_at hl 0 rfl) ?_
        refine x_iload_n X dX7_place_30 rfl (lv_at hl 2 rfl) ?_
        refine x_cvv X hw [iV a2] [] (c_P_thinkStitches l G ad hI σ1 a2 hV) (cwV 1 X.2.2.2.2 gX7_place_X7_thinkStitches rfl rfl rfl hd_P_thinkStitches ⟨x_fr hR.1 rfl, x_fr hR.2 rfl⟩) lx0 cX7 rfl hl.1 rfl (Nat.le_of_ble_eq_true rfl) dX7_place_31 ⟨Nat.zero_le _, Nat.zero_le _⟩ (fun σ7 H locs hV hw => ?_)
        refine x_aload_n X dX7_place_34 rfl (lv_at hl 0 rfl) ?_
        refine x_getr X hw lx0 cX7 7 (by decide) rfl n_P_place_1 n_P_place_4 dX7_place_35 ?_
        refine x_getr X hw lx41 cX6 1 (by decide) rfl n_P_place_6 n_P_place_5 dX7_place_38 ?_
        refine x_iload_n X dX7_place_41 rfl (lv_at hl 1 rfl) ?_
        obtain ⟨hi, hV⟩ := hV
        refine x_iald X hw lx43 rfl rfl hi dX7_place_42 ?_
        exact hret (σ7 43 (i32 a1)) σ7 H locs ls 43 hV hw dX7_place_43
      · replace hV := hV.2 hc
        refine x_aload_n X dX7_place_23 rfl (lv_at hl 0 rfl) ?_
        refine x_iconst X dX7_place_24 ?_
        refine x_cvi X hw [iV 1] [] (c_P_fail l G ad hI σ1 1 hV) (cwV 1 X.2.2.2.2 gX7_place_X7_fail rfl rfl rfl hd_P_fail ⟨x_fr hR.1 rfl, x_fr hR.2 rfl⟩) lx0 cX7 rfl hl.1 rfl (Nat.le_of_ble_eq_true rfl) dX7_place_25 ⟨Nat.zero_le _, Nat.zero_le _⟩ (fun r9 σ8 H locs hV hw => ?_)
        exact hret r9 σ8 H locs ls 28 hV hw dX7_place_28

theorem n_P_rounds_0 : Cond.fieldLink RX7 33 "LacePillow" "ground" "LLacePillow$Ground;" ∈ wsX7_rounds := by decide +kernel
theorem n_P_rounds_1 : ∀ w ∈ wsX70, w ∈ wsX7_rounds := by decide +kernel
theorem n_P_rounds_2 : Cond.fieldLink RX7 119 "LacePillow$Ground" "size" "I" ∈ wsX7_rounds := by decide +kernel
theorem n_P_rounds_3 : ∀ w ∈ wsX00, w ∈ wsX7_rounds := by decide +kernel
theorem n_P_rounds_4 : Cond.fieldLink RX7 51 "LacePillow" "thought" "LLacePillow$Weave;" ∈ wsX7_rounds := by decide +kernel
set_option maxHeartbeats 4000000 in
set_option maxRecDepth 100000 in
theorem c_P_rounds (l : Launch) (G : GT) (ad : Nat → Nat) (hI : Inj LX ad) (σ : St) {Q : Int → St → Prop} (hV : V_P_rounds σ Q) : Met l yX7_rounds wsX7_rounds (rmx 5 127) (Pq vwCl G LX ad σ [.ref (ad 0)]) (Ql vwCl G LX ad Q) 0 0 (Ax LX ad) := by
  unfold V_P_rounds at hV
  refine x_metl (own := RX7) (by decide) rfl rfl (Nat.le_of_ble_eq_true rfl) hI ?_
  intro p e s m args below meth c R QQ X hR hret ls hl hw
  replace hl : lv_has ls 1 [(0, .ref (ad 0))] := hl
  obtain ⟨H, hH⟩ : ∃ z, z = s.heap := ⟨_, rfl⟩
  obtain ⟨locs, hlo⟩ : ∃ z : List Loc, z = [] := ⟨_, rfl⟩
  rw [← hH, ← hlo]
  replace hw : Wx vwCl G LX ad s H locs σ := by rw [hH, hlo]; exact hw
  clear hH hlo
  refine x_aload_n X dX7_rounds_0 rfl (lv_at hl 0 rfl) ?_
  refine x_aload_n X dX7_rounds_1 rfl (lv_at hl 0 rfl) ?_
  refine x_getr X hw lx0 cX7 4 (by decide) rfl n_P_rounds_1 n_P_rounds_0 dX7_rounds_2 ?_
  refine x_geti X hw lx16 cX0 0 (by decide) rfl n_P_rounds_3 n_P_rounds_2 dX7_rounds_5 ?_
  refine x_cvv X hw [iV (σ 16 0)] [] (c_P_thinkStitches l G ad hI σ (σ 16 0) hV) (cwV 1 X.2.2.2.2 gX7_rounds_X7_thinkStitches rfl rfl rfl hd_P_thinkStitches ⟨x_fr hR.1 rfl, x_fr hR.2 rfl⟩) lx0 cX7 rfl hl.1 rfl (Nat.le_of_ble_eq_true rfl) dX7_rounds_8 ⟨Nat.zero_le _, Nat.zero_le _⟩ (fun σ1 H locs hV hw => ?_)
  refine x_aload_n X dX7_rounds_11 rfl (lv_at hl 0 rfl) ?_
  refine x_getr X hw lx0 cX7 7 (by decide) rfl n_P_rounds_1 n_P_rounds_4 dX7_rounds_12 ?_
  refine x_cvl X hw [] [] (c_Weave_commonTurns l G ad hI 41 isWeave41 σ1 hV) (cwV 0 X.2.2.2.2 gX7_rounds_X6_commonTurns rfl rfl rfl hd_Weave_commonTurns ⟨x_fr hR.1 rfl, x_fr hR.2 rfl⟩) lx41 cX6 rfl hl.1 rfl (Nat.le_of_ble_eq_true rfl) dX7_rounds_15 ⟨Nat.zero_le _, Nat.zero_le _⟩ (fun r3 σ2 H locs hV hw => ?_)
  exact hret r3 σ2 H locs ls 18 hV hw dX7_rounds_18

theorem n_P_link_0 : Cond.fieldLink RX7 33 "LacePillow" "ground" "LLacePillow$Ground;" ∈ wsX7_link := by decide +kernel
theorem n_P_link_1 : ∀ w ∈ wsX70, w ∈ wsX7_link := by decide +kernel
theorem n_P_link_2 : Cond.fieldLink RX7 119 "LacePillow$Ground" "size" "I" ∈ wsX7_link := by decide +kernel
theorem n_P_link_3 : ∀ w ∈ wsX00, w ∈ wsX7_link := by decide +kernel
theorem n_P_link_4 : Cond.fieldLink RX7 51 "LacePillow" "thought" "LLacePillow$Weave;" ∈ wsX7_link := by decide +kernel
theorem n_P_link_5 : Cond.fieldLink RX7 281 "LacePillow$Weave" "passes" "[I" ∈ wsX7_link := by decide +kernel
theorem n_P_link_6 : ∀ w ∈ wsX60, w ∈ wsX7_link := by decide +kernel
set_option maxHeartbeats 4000000 in
set_option maxRecDepth 100000 in
theorem c_P_link (l : Launch) (G : GT) (ad : Nat → Nat) (hI : Inj LX ad) (σ : St) (a1 : Int) (a2 : Int) {Q : Int → St → Prop} (hV : V_P_link σ a1 a2 Q) : Met l yX7_link wsX7_link (rmx 5 127) (Pq vwCl G LX ad σ [.ref (ad 0), iV a1, iV a2]) (Qi vwCl G LX ad Q) 0 0 (Ax LX ad) := by
  unfold V_P_link at hV
  refine x_meti (own := RX7) (by decide) rfl rfl (Nat.le_of_ble_eq_true rfl) hI ?_
  intro p e s m args below meth c R QQ X hR hret ls hl hw
  replace hl : lv_has ls 3 [(0, .ref (ad 0)), (1, iV a1), (2, iV a2)] := hl
  obtain ⟨H, hH⟩ : ∃ z, z = s.heap := ⟨_, rfl⟩
  obtain ⟨locs, hlo⟩ : ∃ z : List Loc, z = [] := ⟨_, rfl⟩
  rw [← hH, ← hlo]
  replace hw : Wx vwCl G LX ad s H locs σ := by rw [hH, hlo]; exact hw
  clear hH hlo
  refine x_aload_n X dX7_link_0 rfl (lv_at hl 0 rfl) ?_
  refine x_iload_n X dX7_link_1 rfl (lv_at hl 1 rfl) ?_
  refine x_cvz X hw [iV a1] [] (c_P_isThread l G ad hI σ a1 hV) (cwV 1 X.2.2.2.2 gX7_link_X7_isThread rfl rfl rfl hd_P_isThread ⟨x_fr hR.1 rfl, x_fr hR.2 rfl⟩) lx0 cX7 rfl hl.1 rfl (Nat.le_of_ble_eq_true rfl) dX7_link_2 ⟨Nat.zero_le _, Nat.zero_le _⟩ (fun r2 σ1 H locs hr2 hV hw => ?_)
  refine x_if_eq X rfl 21 dX7_link_5 (by decide) (fun hc => ?_) (fun hc => ?_)
  · replace hV := hV.1 hc
    refine x_aload_n X dX7_link_21 rfl (lv_at hl 0 rfl) ?_
    refine x_iconst X dX7_link_22 ?_
    refine x_cvi X hw [iV 1] [] (c_P_fail l G ad hI σ1 1 hV) (cwV 1 X.2.2.2.2 gX7_link_X7_fail rfl rfl rfl hd_P_fail ⟨x_fr hR.1 rfl, x_fr hR.2 rfl⟩) lx0 cX7 rfl hl.1 rfl (Nat.le_of_ble_eq_true rfl) dX7_link_23 ⟨Nat.zero_le _, Nat.zero_le _⟩ (fun r4 σ3 H locs hV hw => ?_)
    exact hret r4 σ3 H locs ls 26 hV hw dX7_link_26
  · replace hV := hV.2 hc
    refine x_aload_n X dX7_link_8 rfl (lv_at hl 0 rfl) ?_
    refine x_iload_n X dX7_link_9 rfl (lv_at hl 2 rfl) ?_
    refine x_cvz X hw [iV a2] [] (c_P_isThread l G ad hI σ1 a2 hV) (cwV 1 X.2.2.2.2 gX7_link_X7_isThread rfl rfl rfl hd_P_isThread ⟨x_fr hR.1 rfl, x_fr hR.2 rfl⟩) lx0 cX7 rfl hl.1 rfl (Nat.le_of_ble_eq_true rfl) dX7_link_10 ⟨Nat.zero_le _, Nat.zero_le _⟩ (fun r6 σ5 H locs hr6 hV hw => ?_)
    refine x_if_eq X rfl 21 dX7_link_13 (by decide) (fun hc => ?_) (fun hc => ?_)
    · replace hV := hV.1 hc
      refine x_aload_n X dX7_link_21 rfl (lv_at hl 0 rfl) ?_
      refine x_iconst X dX7_link_22 ?_
      refine x_cvi X hw [iV 1] [] (c_P_fail l G ad hI σ5 1 hV) (cwV 1 X.2.2.2.2 gX7_link_X7_fail rfl rfl rfl hd_P_fail ⟨x_fr hR.1 rfl, x_fr hR.2 rfl⟩) lx0 cX7 rfl hl.1 rfl (Nat.le_of_ble_eq_true rfl) dX7_link_23 ⟨Nat.zero_le _, Nat.zero_le _⟩ (fun r8 σ7 H locs hV hw => ?_)
      exact hret r8 σ7 H locs ls 26 hV hw dX7_link_26
    · replace hV := hV.2 hc
      refine x_iload_n X dX7_link_16 rfl (lv_at hl 1 rfl) ?_
      refine x_iload_n X dX7_link_17 rfl (lv_at hl 2 rfl) ?_
      refine x_icmp_ne X rfl rfl 27 dX7_link_18 (by decide) (fun hc => ?_) (fun hc => ?_)
      · replace hV := hV.1 hc
        refine x_aload_n X dX7_link_27 rfl (lv_at hl 0 rfl) ?_
        refine x_aload_n X dX7_link_28 rfl (lv_at hl 0 rfl) ?_
        refine x_getr X hw lx0 cX7 4 (by decide) rfl n_P_link_1 n_P_link_0 dX7_link_29 ?_
        refine x_geti X hw lx16 cX0 0 (by decide) rfl n_P_link_3 n_P_link_2 dX7_link_32 ?_
        refine x_cvv X hw [iV (σ5 16 0)] [] (c_P_thinkStitches l G ad hI σ5 (σ5 16 0) hV) (cwV 1 X.2.2.2.2 gX7_link_X7_thinkStitches rfl rfl rfl hd_P_thinkStitches ⟨x_fr hR.1 rfl, x_fr hR.2 rfl⟩) lx0 cX7 rfl hl.1 rfl (Nat.le_of_ble_eq_true rfl) dX7_link_35 ⟨Nat.zero_le _, Nat.zero_le _⟩ (fun σ9 H locs hV hw => ?_)
        refine x_aload_n X dX7_link_38 rfl (lv_at hl 0 rfl) ?_
        refine x_getr X hw lx0 cX7 7 (by decide) rfl n_P_link_1 n_P_link_4 dX7_link_39 ?_
        refine x_getr X hw lx41 cX6 7 (by decide) rfl n_P_link_6 n_P_link_5 dX7_link_42 ?_
        refine x_iload_n X dX7_link_45 rfl (lv_at hl 1 rfl) ?_
        refine x_bipush X dX7_link_46 (by decide) ?_
        refine x_imul X dX7_link_48 ?_
        refine x_iload_n X dX7_link_49 rfl (lv_at hl 2 rfl) ?_
        refine x_iadd X dX7_link_50 ?_
        obtain ⟨hi, hV⟩ := hV
        refine x_iald X hw lx49 rfl rfl hi dX7_link_51 ?_
        refine x_aload_n X dX7_link_52 rfl (lv_at hl 0 rfl) ?_
        refine x_getr X hw lx0 cX7 7 (by decide) rfl n_P_link_1 n_P_link_4 dX7_link_53 ?_
        refine x_getr X hw lx41 cX6 7 (by decide) rfl n_P_link_6 n_P_link_5 dX7_link_56 ?_
        refine x_iload_n X dX7_link_59 rfl (lv_at hl 2 rfl) ?_
        refine x_bipush X dX7_link_60 (by decide) ?_
        refine x_imul X dX7_link_62 ?_
        refine x_iload_n X dX7_link_63 rfl (lv_at hl 1 rfl) ?_
        refine x_iadd X dX7_link_64 ?_
        obtain ⟨hi, hV⟩ := hV
        refine x_iald X hw lx49 rfl rfl hi dX7_link_65 ?_
        refine x_isub X dX7_link_66 ?_
        exact hret ((σ9 49 (i32 ((a1 * 16) + a2))) - (σ9 49 (i32 ((a2 * 16) + a1)))) σ9 H locs ls 67 hV hw dX7_link_67
      · replace hV := hV.2 hc
        refine x_aload_n X dX7_link_21 rfl (lv_at hl 0 rfl) ?_
        refine x_iconst X dX7_link_22 ?_
        refine x_cvi X hw [iV 1] [] (c_P_fail l G ad hI σ5 1 hV) (cwV 1 X.2.2.2.2 gX7_link_X7_fail rfl rfl rfl hd_P_fail ⟨x_fr hR.1 rfl, x_fr hR.2 rfl⟩) lx0 cX7 rfl hl.1 rfl (Nat.le_of_ble_eq_true rfl) dX7_link_23 ⟨Nat.zero_le _, Nat.zero_le _⟩ (fun r11 σ10 H locs hV hw => ?_)
        exact hret r11 σ10 H locs ls 26 hV hw dX7_link_26
