theorem n_P_meet_0 : Cond.fieldLink RX7 33 "LacePillow" "ground" "LLacePillow$Ground;" ∈ wsX7_meet := by decide +kernel
theorem n_P_meet_1 : ∀ w ∈ wsX70, w ∈ wsX7_meet := by decide +kernel
theorem n_P_meet_2 : Cond.fieldLink RX7 119 "LacePillow$Ground" "size" "I" ∈ wsX7_meet := by decide +kernel
theorem n_P_meet_3 : ∀ w ∈ wsX00, w ∈ wsX7_meet := by decide +kernel
theorem n_P_meet_4 : Cond.fieldLink RX7 51 "LacePillow" "thought" "LLacePillow$Weave;" ∈ wsX7_meet := by decide +kernel
set_option maxHeartbeats 4000000 in
set_option maxRecDepth 100000 in
theorem c_P_meet (l : Launch) (G : GT) (ad : Nat → Nat) (hI : Inj LX ad) (σ : St) (a1 : Int) (a2 : Int) {Q : Int → St → Prop} (hV : V_P_meet σ a1 a2 Q) : Met l yX7_meet wsX7_meet (rmx 5 127) (Pq vwCl G LX ad σ [.ref (ad 0), iV a1, iV a2]) (Qi vwCl G LX ad Q) 0 0 (Ax LX ad) := by
  unfold V_P_meet at hV
  refine x_meti (own := RX7) (by decide) rfl rfl (Nat.le_of_ble_eq_true rfl) hI ?_
  intro p e s m args below meth c R QQ X hR hret ls hl hw
  replace hl : lv_has ls 4 [(0, .ref (ad 0)), (1, iV a1), (2, iV a2)] := hl
  obtain ⟨H, hH⟩ : ∃ z, z = s.heap := ⟨_, rfl⟩
  obtain ⟨locs, hlo⟩ : ∃ z : List Loc, z = [] := ⟨_, rfl⟩
  rw [← hH, ← hlo]
  replace hw : Wx vwCl G LX ad s H locs σ := by rw [hH, hlo]; exact hw
  clear hH hlo
  refine x_aload_n X dX7_meet_0 rfl (lv_at hl 0 rfl) ?_
  refine x_iload_n X dX7_meet_1 rfl (lv_at hl 1 rfl) ?_
  refine x_cvz X hw [iV a1] [] (c_P_isThread l G ad hI σ a1 hV) (cwV 1 X.2.2.2.2 gX7_meet_X7_isThread rfl rfl rfl hd_P_isThread ⟨x_fr hR.1 rfl, x_fr hR.2 rfl⟩) lx0 cX7 rfl hl.1 rfl (Nat.le_of_ble_eq_true rfl) dX7_meet_2 ⟨Nat.zero_le _, Nat.zero_le _⟩ (fun r2 σ1 H locs hr2 hV hw => ?_)
  refine x_if_eq X rfl 21 dX7_meet_5 (by decide) (fun hc => ?_) (fun hc => ?_)
  · replace hV := hV.1 hc
    refine x_aload_n X dX7_meet_21 rfl (lv_at hl 0 rfl) ?_
    refine x_iconst X dX7_meet_22 ?_
    refine x_cvi X hw [iV 1] [] (c_P_fail l G ad hI σ1 1 hV) (cwV 1 X.2.2.2.2 gX7_meet_X7_fail rfl rfl rfl hd_P_fail ⟨x_fr hR.1 rfl, x_fr hR.2 rfl⟩) lx0 cX7 rfl hl.1 rfl (Nat.le_of_ble_eq_true rfl) dX7_meet_23 ⟨Nat.zero_le _, Nat.zero_le _⟩ (fun r4 σ3 H locs hV hw => ?_)
    exact hret r4 σ3 H locs ls 26 hV hw dX7_meet_26
  · replace hV := hV.2 hc
    refine x_aload_n X dX7_meet_8 rfl (lv_at hl 0 rfl) ?_
    refine x_iload_n X dX7_meet_9 rfl (lv_at hl 2 rfl) ?_
    refine x_cvz X hw [iV a2] [] (c_P_isThread l G ad hI σ1 a2 hV) (cwV 1 X.2.2.2.2 gX7_meet_X7_isThread rfl rfl rfl hd_P_isThread ⟨x_fr hR.1 rfl, x_fr hR.2 rfl⟩) lx0 cX7 rfl hl.1 rfl (Nat.le_of_ble_eq_true rfl) dX7_meet_10 ⟨Nat.zero_le _, Nat.zero_le _⟩ (fun r6 σ5 H locs hr6 hV hw => ?_)
    refine x_if_eq X rfl 21 dX7_meet_13 (by decide) (fun hc => ?_) (fun hc => ?_)
    · replace hV := hV.1 hc
      refine x_aload_n X dX7_meet_21 rfl (lv_at hl 0 rfl) ?_
      refine x_iconst X dX7_meet_22 ?_
      refine x_cvi X hw [iV 1] [] (c_P_fail l G ad hI σ5 1 hV) (cwV 1 X.2.2.2.2 gX7_meet_X7_fail rfl rfl rfl hd_P_fail ⟨x_fr hR.1 rfl, x_fr hR.2 rfl⟩) lx0 cX7 rfl hl.1 rfl (Nat.le_of_ble_eq_true rfl) dX7_meet_23 ⟨Nat.zero_le _, Nat.zero_le _⟩ (fun r8 σ7 H locs hV hw => ?_)
      exact hret r8 σ7 H locs ls 26 hV hw dX7_meet_26
    · replace hV := hV.2 hc
      refine x_iload_n X dX7_meet_16 rfl (lv_at hl 1 rfl) ?_
      refine x_iload_n X dX7_meet_17 rfl (lv_at hl 2 rfl) ?_
      refine x_icmp_ne X rfl rfl 27 dX7_meet_18 (by decide) (fun hc => ?_) (fun hc => ?_)
      · replace hV := hV.1 hc
        refine x_iconst X dX7_meet_27 ?_
        refine x_istore_n X [(3, iV 0), (0, .ref (ad 0)), (1, iV a1), (2, iV a2)] dX7_meet_28 rfl hl (by decide) rfl (fun ls hl => ?_)
        refine WL1.use (Gl := fun x3_9 σ10 => ∀ (H : Heap) (locs : List Loc) (ls : Array Slot), Wx vwCl G LX ad s H locs σ10 → lv_has ls 4 [(3, iV x3_9), (0, .ref (ad 0)), (1, iV a1), (2, iV a2)] → W p l e R s m args below meth c H locs 0 0 QQ (F0 m 29 ls [])) ?_ hV H locs ls hw hl
        clear hV hw hl H locs ls
        intro bk11 x3_9 σ10 hbk11 hV H locs ls hw hl
        refine x_iload_n X dX7_meet_29 rfl (lv_at hl 0 rfl) ?_
        refine x_aload_n X dX7_meet_30 rfl (lv_at hl 1 rfl) ?_
        refine x_getr X hw lx0 cX7 4 (by decide) rfl n_P_meet_1 n_P_meet_0 dX7_meet_31 ?_
        refine x_geti X hw lx16 cX0 0 (by decide) rfl n_P_meet_3 n_P_meet_2 dX7_meet_34 ?_
        refine x_icmp_ge X rfl rfl 67 dX7_meet_37 (by decide) (fun hc => ?_) (fun hc => ?_)
        · replace hV := hV.1 hc
          refine x_aload_n X dX7_meet_67 rfl (lv_at hl 1 rfl) ?_
          refine x_iconst X dX7_meet_68 ?_
          refine x_cvi X hw [iV 2] [] (c_P_fail l G ad hI σ10 2 hV) (cwV 1 X.2.2.2.2 gX7_meet_X7_fail rfl rfl rfl hd_P_fail ⟨x_fr hR.1 rfl, x_fr hR.2 rfl⟩) lx0 cX7 rfl hl.1 rfl (Nat.le_of_ble_eq_true rfl) dX7_meet_69 ⟨Nat.zero_le _, Nat.zero_le _⟩ (fun r13 σ12 H locs hV hw => ?_)
          exact hret r13 σ12 H locs ls 72 hV hw dX7_meet_72
        · replace hV := hV.2 hc
          refine x_aload_n X dX7_meet_40 rfl (lv_at hl 1 rfl) ?_
          refine x_iload_n X dX7_meet_41 rfl (lv_at hl 0 rfl) ?_
          refine x_iconst X dX7_meet_42 ?_
          refine x_iadd X dX7_meet_43 ?_
          refine x_cvv X hw [iV (x3_9 + 1)] [] (c_P_thinkStitches l G ad hI σ10 (x3_9 + 1) hV) (cwV 1 X.2.2.2.2 gX7_meet_X7_thinkStitches rfl rfl rfl hd_P_thinkStitches ⟨x_fr hR.1 rfl, x_fr hR.2 rfl⟩) lx0 cX7 rfl hl.1 rfl (Nat.le_of_ble_eq_true rfl) dX7_meet_44 ⟨Nat.zero_le _, Nat.zero_le _⟩ (fun σ14 H locs hV hw => ?_)
          refine x_aload_n X dX7_meet_47 rfl (lv_at hl 1 rfl) ?_
          refine x_getr X hw lx0 cX7 7 (by decide) rfl n_P_meet_1 n_P_meet_4 dX7_meet_48 ?_
          refine x_iload_n X dX7_meet_51 rfl (lv_at hl 2 rfl) ?_
          refine x_iload_n X dX7_meet_52 rfl (lv_at hl 3 rfl) ?_
          refine x_cvz X hw [iV a1, iV a2] [] (c_Weave_haveCrossed l G ad hI 41 isWeave41 σ14 a1 a2 hV) (cwV 2 X.2.2.2.2 gX7_meet_X6_haveCrossed rfl rfl rfl hd_Weave_haveCrossed ⟨x_fr hR.1 rfl, x_fr hR.2 rfl⟩) lx41 cX6 rfl hl.1 rfl (Nat.le_of_ble_eq_true rfl) dX7_meet_53 ⟨Nat.zero_le _, Nat.zero_le _⟩ (fun r16 σ15 H locs hr16 hV hw => ?_)
          refine x_if_eq X rfl 61 dX7_meet_56 (by decide) (fun hc => ?_) (fun hc => ?_)
          · replace hV := hV.1 hc
            refine x_iinc X (k := 0) (x3_9 + 1) [(3, iV (x3_9 + 1)), (0, .ref (ad 0)), (1, iV a1), (2, iV a2)] dX7_meet_61 hl rfl rfl (by decide) rfl (fun ls hl => ?_)
            refine x_goto X 29 dX7_meet_64 (by decide) ?_
            exact hbk11 (x3_9 + 1) σ15 hV H locs ls hw hl
          · replace hV := hV.2 hc
            refine x_iload_n X dX7_meet_59 rfl (lv_at hl 0 rfl) ?_
            exact hret x3_9 σ15 H locs ls 60 hV hw dX7_meet_60
      · replace hV := hV.2 hc
        refine x_aload_n X dX7_meet_21 rfl (lv_at hl 0 rfl) ?_
        refine x_iconst X dX7_meet_22 ?_
        refine x_cvi X hw [iV 1] [] (c_P_fail l G ad hI σ5 1 hV) (cwV 1 X.2.2.2.2 gX7_meet_X7_fail rfl rfl rfl hd_P_fail ⟨x_fr hR.1 rfl, x_fr hR.2 rfl⟩) lx0 cX7 rfl hl.1 rfl (Nat.le_of_ble_eq_true rfl) dX7_meet_23 ⟨Nat.zero_le _, Nat.zero_le _⟩ (fun r18 σ17 H locs hV hw => ?_)
        exact hret r18 σ17 H locs ls 26 hV hw dX7_meet_26

theorem n_P_lacks_0 : Cond.fieldLink RX7 33 "LacePillow" "ground" "LLacePillow$Ground;" ∈ wsX7_lacks := by decide +kernel
theorem n_P_lacks_1 : ∀ w ∈ wsX70, w ∈ wsX7_lacks := by decide +kernel
theorem n_P_lacks_2 : Cond.fieldLink RX7 119 "LacePillow$Ground" "size" "I" ∈ wsX7_lacks := by decide +kernel
theorem n_P_lacks_3 : ∀ w ∈ wsX00, w ∈ wsX7_lacks := by decide +kernel
theorem n_P_lacks_4 : Cond.fieldLink RX7 51 "LacePillow" "thought" "LLacePillow$Weave;" ∈ wsX7_lacks := by decide +kernel
theorem n_P_lacks_5 : Cond.fieldLink RX7 12 "LacePillow" "plan" "LLacePillow$Plan;" ∈ wsX7_lacks := by decide +kernel
theorem n_P_lacks_6 : Cond.fieldLink RX7 263 "LacePillow$Plan" "wound" "[I" ∈ wsX7_lacks := by decide +kernel
theorem n_P_lacks_7 : ∀ w ∈ wsX20, w ∈ wsX7_lacks := by decide +kernel
set_option maxHeartbeats 4000000 in
set_option maxRecDepth 100000 in
theorem c_P_lacks (l : Launch) (G : GT) (ad : Nat → Nat) (hI : Inj LX ad) (σ : St) (a1 : Int) {Q : Int → St → Prop} (hV : V_P_lacks σ a1 Q) : Met l yX7_lacks wsX7_lacks (rmx 5 127) (Pq vwCl G LX ad σ [.ref (ad 0), iV a1]) (Qi vwCl G LX ad Q) 0 0 (Ax LX ad) := by
  unfold V_P_lacks at hV
  refine x_meti (own := RX7) (by decide) rfl rfl (Nat.le_of_ble_eq_true rfl) hI ?_
  intro p e s m args below meth c R QQ X hR hret ls hl hw
  replace hl : lv_has ls 4 [(0, .ref (ad 0)), (1, iV a1)] := hl
  obtain ⟨H, hH⟩ : ∃ z, z = s.heap := ⟨_, rfl⟩
  obtain ⟨locs, hlo⟩ : ∃ z : List Loc, z = [] := ⟨_, rfl⟩
  rw [← hH, ← hlo]
  replace hw : Wx vwCl G LX ad s H locs σ := by rw [hH, hlo]; exact hw
  clear hH hlo
  refine x_iload_n X dX7_lacks_0 rfl (lv_at hl 1 rfl) ?_
  refine x_if_lt X rfl 9 dX7_lacks_1 (by decide) (fun hc => ?_) (fun hc => ?_)
  · replace hV := hV.1 hc
    refine x_aload_n X dX7_lacks_9 rfl (lv_at hl 0 rfl) ?_
    refine x_iconst X dX7_lacks_10 ?_
    refine x_cvi X hw [iV 1] [] (c_P_fail l G ad hI σ 1 hV) (cwV 1 X.2.2.2.2 gX7_lacks_X7_fail rfl rfl rfl hd_P_fail ⟨x_fr hR.1 rfl, x_fr hR.2 rfl⟩) lx0 cX7 rfl hl.1 rfl (Nat.le_of_ble_eq_true rfl) dX7_lacks_11 ⟨Nat.zero_le _, Nat.zero_le _⟩ (fun r2 σ1 H locs hV hw => ?_)
    exact hret r2 σ1 H locs ls 14 hV hw dX7_lacks_14
  · replace hV := hV.2 hc
    refine x_iload_n X dX7_lacks_4 rfl (lv_at hl 1 rfl) ?_
    refine x_iconst X dX7_lacks_5 ?_
    refine x_icmp_le X rfl k32_1 15 dX7_lacks_6 (by decide) (fun hc => ?_) (fun hc => ?_)
    · replace hV := hV.1 hc
      refine x_iconst X dX7_lacks_15 ?_
      refine x_istore_n X [(2, iV 0), (0, .ref (ad 0)), (1, iV a1)] dX7_lacks_16 rfl hl (by decide) rfl (fun ls hl => ?_)
      refine WL1.use (Gl := fun x2_3 σ4 => ∀ (H : Heap) (locs : List Loc) (ls : Array Slot), Wx vwCl G LX ad s H locs σ4 → lv_has ls 4 [(2, iV x2_3), (0, .ref (ad 0)), (1, iV a1)] → W p l e R s m args below meth c H locs 0 0 QQ (F0 m 17 ls [])) ?_ hV H locs ls hw hl
      clear hV hw hl H locs ls
      intro bk5 x2_3 σ4 hbk5 hV H locs ls hw hl
      refine x_iload_n X dX7_lacks_17 rfl (lv_at hl 0 rfl) ?_
      refine x_aload_n X dX7_lacks_18 rfl (lv_at hl 1 rfl) ?_
      refine x_getr X hw lx0 cX7 4 (by decide) rfl n_P_lacks_1 n_P_lacks_0 dX7_lacks_19 ?_
      refine x_geti X hw lx16 cX0 0 (by decide) rfl n_P_lacks_3 n_P_lacks_2 dX7_lacks_22 ?_
      refine x_icmp_ge X rfl rfl 70 dX7_lacks_25 (by decide) (fun hc => ?_) (fun hc => ?_)
      · replace hV := hV.1 hc
        refine x_aload_n X dX7_lacks_70 rfl (lv_at hl 1 rfl) ?_
        refine x_iconst X dX7_lacks_71 ?_
        refine x_cvi X hw [iV 2] [] (c_P_fail l G ad hI σ4 2 hV) (cwV 1 X.2.2.2.2 gX7_lacks_X7_fail rfl rfl rfl hd_P_fail ⟨x_fr hR.1 rfl, x_fr hR.2 rfl⟩) lx0 cX7 rfl hl.1 rfl (Nat.le_of_ble_eq_true rfl) dX7_lacks_72 ⟨Nat.zero_le _, Nat.zero_le _⟩ (fun r7 σ6 H locs hV hw => ?_)
        exact hret r7 σ6 H locs ls 75 hV hw dX7_lacks_75
      · replace hV := hV.2 hc
        refine x_aload_n X dX7_lacks_28 rfl (lv_at hl 1 rfl) ?_
        refine x_iload_n X dX7_lacks_29 rfl (lv_at hl 0 rfl) ?_
        refine x_iconst X dX7_lacks_30 ?_
        refine x_iadd X dX7_lacks_31 ?_
        refine x_cvv X hw [iV (x2_3 + 1)] [] (c_P_thinkStitches l G ad hI σ4 (x2_3 + 1) hV) (cwV 1 X.2.2.2.2 gX7_lacks_X7_thinkStitches rfl rfl rfl hd_P_thinkStitches ⟨x_fr hR.1 rfl, x_fr hR.2 rfl⟩) lx0 cX7 rfl hl.1 rfl (Nat.le_of_ble_eq_true rfl) dX7_lacks_32 ⟨Nat.zero_le _, Nat.zero_le _⟩ (fun σ8 H locs hV hw => ?_)
        refine x_aload_n X dX7_lacks_35 rfl (lv_at hl 1 rfl) ?_
        refine x_getr X hw lx0 cX7 7 (by decide) rfl n_P_lacks_1 n_P_lacks_4 dX7_lacks_36 ?_
        refine x_aload_n X dX7_lacks_39 rfl (lv_at hl 1 rfl) ?_
        refine x_getr X hw lx0 cX7 0 (by decide) rfl n_P_lacks_1 n_P_lacks_5 dX7_lacks_40 ?_
        refine x_getr X hw lx1 cX2 4 (by decide) rfl n_P_lacks_7 n_P_lacks_6 dX7_lacks_43 ?_
        refine x_cvi X hw [.ref (ad 5)] [] (c_Weave_leastLacking l G ad hI 41 isWeave41 σ8 hV) (cwV 1 X.2.2.2.2 gX7_lacks_X6_leastLacking rfl rfl rfl hd_Weave_leastLacking ⟨x_fr hR.1 rfl, x_fr hR.2 rfl⟩) lx41 cX6 rfl hl.1 rfl (Nat.le_of_ble_eq_true rfl) dX7_lacks_46 ⟨Nat.zero_le _, Nat.zero_le _⟩ (fun r10 σ9 H locs hV hw => ?_)
        refine x_istore_n X [(3, iV r10), (2, iV x2_3), (0, .ref (ad 0)), (1, iV a1)] dX7_lacks_49 rfl hl (by decide) rfl (fun ls hl => ?_)
        refine x_iload_n X dX7_lacks_50 rfl (lv_at hl 0 rfl) ?_
        refine x_if_lt X rfl 64 dX7_lacks_51 (by decide) (fun hc => ?_) (fun hc => ?_)
        · replace hV := hV.1 hc
          refine x_iinc X (k := 1) (x2_3 + 1) [(2, iV (x2_3 + 1)), (3, iV r10), (0, .ref (ad 0)), (1, iV a1)] dX7_lacks_64 hl rfl rfl (by decide) rfl (fun ls hl => ?_)
          refine x_goto X 17 dX7_lacks_67 (by decide) ?_
          exact hbk5 (x2_3 + 1) σ9 hV H locs ls hw (lv_sub hl [0, 2, 3] rfl)
        · replace hV := hV.2 hc
          refine x_iload_n X dX7_lacks_54 rfl (lv_at hl 3 rfl) ?_
          refine x_if_ne X rfl 62 dX7_lacks_55 (by decide) (fun hc => ?_) (fun hc => ?_)
          · replace hV := hV.1 hc
            refine x_iload_n X dX7_lacks_62 rfl (lv_at hl 0 rfl) ?_
            exact hret r10 σ9 H locs ls 63 hV hw dX7_lacks_63
          · replace hV := hV.2 hc
            refine x_iload_n X dX7_lacks_58 rfl (lv_at hl 1 rfl) ?_
            refine x_goto X 63 dX7_lacks_59 (by decide) ?_
            exact hret x2_3 σ9 H locs ls 63 hV hw dX7_lacks_63
    · replace hV := hV.2 hc
      refine x_aload_n X dX7_lacks_9 rfl (lv_at hl 0 rfl) ?_
      refine x_iconst X dX7_lacks_10 ?_
      refine x_cvi X hw [iV 1] [] (c_P_fail l G ad hI σ 1 hV) (cwV 1 X.2.2.2.2 gX7_lacks_X7_fail rfl rfl rfl hd_P_fail ⟨x_fr hR.1 rfl, x_fr hR.2 rfl⟩) lx0 cX7 rfl hl.1 rfl (Nat.le_of_ble_eq_true rfl) dX7_lacks_11 ⟨Nat.zero_le _, Nat.zero_le _⟩ (fun r12 σ11 H locs hV hw => ?_)
      exact hret r12 σ11 H locs ls 14 hV hw dX7_lacks_14

theorem n_P_weaveOf_0 : Cond.fieldLink RX7 33 "LacePillow" "ground" "LLacePillow$Ground;" ∈ wsX7_weaveOf := by decide +kernel
theorem n_P_weaveOf_1 : ∀ w ∈ wsX70, w ∈ wsX7_weaveOf := by decide +kernel
theorem n_P_weaveOf_2 : Cond.fieldLink RX7 119 "LacePillow$Ground" "size" "I" ∈ wsX7_weaveOf := by decide +kernel
theorem n_P_weaveOf_3 : ∀ w ∈ wsX00, w ∈ wsX7_weaveOf := by decide +kernel
theorem n_P_weaveOf_4 : Cond.fieldLink RX7 51 "LacePillow" "thought" "LLacePillow$Weave;" ∈ wsX7_weaveOf := by decide +kernel
theorem n_P_weaveOf_5 : Cond.fieldLink RX7 47 "LacePillow" "done" "LLacePillow$Weave;" ∈ wsX7_weaveOf := by decide +kernel
set_option maxHeartbeats 4000000 in
set_option maxRecDepth 100000 in
theorem c_P_weaveOf (l : Launch) (G : GT) (ad : Nat → Nat) (hI : Inj LX ad) (σ : St) (a1 : Int) {Q : Nat → St → Prop} (hV : V_P_weaveOf σ a1 Q) : Met l yX7_weaveOf wsX7_weaveOf (rmx 5 127) (Pq vwCl G LX ad σ [.ref (ad 0), iV a1]) (Qr vwCl G LX ad Q) 0 0 (Ax LX ad) := by
  unfold V_P_weaveOf at hV
  refine x_metr (own := RX7) (by decide) rfl rfl (Nat.le_of_ble_eq_true rfl) hI ?_
  intro p e s m args below meth c R QQ X hR hret ls hl hw
  replace hl : lv_has ls 2 [(0, .ref (ad 0)), (1, iV a1)] := hl
  obtain ⟨H, hH⟩ : ∃ z, z = s.heap := ⟨_, rfl⟩
  obtain ⟨locs, hlo⟩ : ∃ z : List Loc, z = [] := ⟨_, rfl⟩
  rw [← hH, ← hlo]
  replace hw : Wx vwCl G LX ad s H locs σ := by rw [hH, hlo]; exact hw
  clear hH hlo
  refine x_iload_n X dX7_weaveOf_0 rfl (lv_at hl 1 rfl) ?_
  refine x_if_ne X rfl 9 dX7_weaveOf_1 (by decide) (fun hc => ?_) (fun hc => ?_)
  · replace hV := hV.1 hc
    refine x_aload_n X dX7_weaveOf_9 rfl (lv_at hl 0 rfl) ?_
    refine x_aload_n X dX7_weaveOf_10 rfl (lv_at hl 0 rfl) ?_
    refine x_getr X hw lx0 cX7 4 (by decide) rfl n_P_weaveOf_1 n_P_weaveOf_0 dX7_weaveOf_11 ?_
    refine x_geti X hw lx16 cX0 0 (by decide) rfl n_P_weaveOf_3 n_P_weaveOf_2 dX7_weaveOf_14 ?_
    refine x_cvv X hw [iV (σ 16 0)] [] (c_P_thinkStitches l G ad hI σ (σ 16 0) hV) (cwV 1 X.2.2.2.2 gX7_weaveOf_X7_thinkStitches rfl rfl rfl hd_P_thinkStitches ⟨x_fr hR.1 rfl, x_fr hR.2 rfl⟩) lx0 cX7 rfl hl.1 rfl (Nat.le_of_ble_eq_true rfl) dX7_weaveOf_17 ⟨Nat.zero_le _, Nat.zero_le _⟩ (fun σ1 H locs hV hw => ?_)
    refine x_aload_n X dX7_weaveOf_20 rfl (lv_at hl 0 rfl) ?_
    refine x_getr X hw lx0 cX7 7 (by decide) rfl n_P_weaveOf_1 n_P_weaveOf_4 dX7_weaveOf_21 ?_
    exact hret 41 σ1 H locs ls 24 hV hw dX7_weaveOf_24
  · replace hV := hV.2 hc
    refine x_aload_n X dX7_weaveOf_4 rfl (lv_at hl 0 rfl) ?_
    refine x_getr X hw lx0 cX7 6 (by decide) rfl n_P_weaveOf_1 n_P_weaveOf_5 dX7_weaveOf_5 ?_
    exact hret 29 σ H locs ls 8 hV hw dX7_weaveOf_8

theorem n_P_lace_0 : Cond.fieldLink RX7 139 "LacePillow$Weave" "crossings" "I" ∈ wsX7_lace := by decide +kernel
theorem n_P_lace_1 : ∀ w ∈ wsX60, w ∈ wsX7_lace := by decide +kernel
theorem n_P_lace_2 : Cond.fieldLink RX7 142 "LacePillow$Weave" "heap" "LLacePillow$Heap;" ∈ wsX7_lace := by decide +kernel
theorem n_P_lace_3 : Cond.fieldLink RX7 145 "LacePillow$Heap" "size" "I" ∈ wsX7_lace := by decide +kernel
theorem n_P_lace_4 : ∀ w ∈ wsX10, w ∈ wsX7_lace := by decide +kernel
set_option maxHeartbeats 4000000 in
set_option maxRecDepth 100000 in
theorem c_P_lace (l : Launch) (G : GT) (ad : Nat → Nat) (hI : Inj LX ad) (σ : St) (a1 : Int) (a2 : Int) {Q : Int → St → Prop} (hV : V_P_lace σ a1 a2 Q) : Met l yX7_lace wsX7_lace (rmx 6 148) (Pq vwCl G LX ad σ [.ref (ad 0), iV a1, iV a2]) (Qi vwCl G LX ad Q) 0 0 (Ax LX ad) := by
  unfold V_P_lace at hV
  refine x_meti (own := RX7) (by decide) rfl rfl (Nat.le_of_ble_eq_true rfl) hI ?_
  intro p e s m args below meth c R QQ X hR hret ls hl hw
  replace hl : lv_has ls 4 [(0, .ref (ad 0)), (1, iV a1), (2, iV a2)] := hl
  obtain ⟨H, hH⟩ : ∃ z, z = s.heap := ⟨_, rfl⟩
  obtain ⟨locs, hlo⟩ : ∃ z : List Loc, z = [] := ⟨_, rfl⟩
  rw [← hH, ← hlo]
  replace hw : Wx vwCl G LX ad s H locs σ := by rw [hH, hlo]; exact hw
  clear hH hlo
  refine x_iload_n X dX7_lace_0 rfl (lv_at hl 1 rfl) ?_
  refine x_if_lt X rfl 18 dX7_lace_1 (by decide) (fun hc => ?_) (fun hc => ?_)
  · replace hV := hV.1 hc
    refine x_aload_n X dX7_lace_18 rfl (lv_at hl 0 rfl) ?_
    refine x_iconst X dX7_lace_19 ?_
    refine x_cvi X hw [iV 1] [] (c_P_fail l G ad hI σ 1 hV) (cwV 1 X.2.2.2.2 gX7_lace_X7_fail rfl rfl rfl hd_P_fail ⟨x_fr hR.1 rfl, x_fr hR.2 rfl⟩) lx0 cX7 rfl hl.1 rfl (Nat.le_of_ble_eq_true rfl) dX7_lace_20 ⟨Nat.zero_le _, Nat.zero_le _⟩ (fun r2 σ1 H locs hV hw => ?_)
    exact hret r2 σ1 H locs ls 23 hV hw dX7_lace_23
  · replace hV := hV.2 hc
    refine x_iload_n X dX7_lace_4 rfl (lv_at hl 1 rfl) ?_
    refine x_iconst X dX7_lace_5 ?_
    refine x_icmp_gt X rfl k32_1 18 dX7_lace_6 (by decide) (fun hc => ?_) (fun hc => ?_)
    · replace hV := hV.1 hc
      refine x_aload_n X dX7_lace_18 rfl (lv_at hl 0 rfl) ?_
      refine x_iconst X dX7_lace_19 ?_
      refine x_cvi X hw [iV 1] [] (c_P_fail l G ad hI σ 1 hV) (cwV 1 X.2.2.2.2 gX7_lace_X7_fail rfl rfl rfl hd_P_fail ⟨x_fr hR.1 rfl, x_fr hR.2 rfl⟩) lx0 cX7 rfl hl.1 rfl (Nat.le_of_ble_eq_true rfl) dX7_lace_20 ⟨Nat.zero_le _, Nat.zero_le _⟩ (fun r4 σ3 H locs hV hw => ?_)
      exact hret r4 σ3 H locs ls 23 hV hw dX7_lace_23
    · replace hV := hV.2 hc
      refine x_iload_n X dX7_lace_9 rfl (lv_at hl 2 rfl) ?_
      refine x_if_lt X rfl 18 dX7_lace_10 (by decide) (fun hc => ?_) (fun hc => ?_)
      · replace hV := hV.1 hc
        refine x_aload_n X dX7_lace_18 rfl (lv_at hl 0 rfl) ?_
        refine x_iconst X dX7_lace_19 ?_
        refine x_cvi X hw [iV 1] [] (c_P_fail l G ad hI σ 1 hV) (cwV 1 X.2.2.2.2 gX7_lace_X7_fail rfl rfl rfl hd_P_fail ⟨x_fr hR.1 rfl, x_fr hR.2 rfl⟩) lx0 cX7 rfl hl.1 rfl (Nat.le_of_ble_eq_true rfl) dX7_lace_20 ⟨Nat.zero_le _, Nat.zero_le _⟩ (fun r6 σ5 H locs hV hw => ?_)
        exact hret r6 σ5 H locs ls 23 hV hw dX7_lace_23
      · replace hV := hV.2 hc
        refine x_iload_n X dX7_lace_13 rfl (lv_at hl 2 rfl) ?_
        refine x_iconst X dX7_lace_14 ?_
        refine x_icmp_le X rfl k32_3 24 dX7_lace_15 (by decide) (fun hc => ?_) (fun hc => ?_)
        · replace hV := hV.1 hc
          refine x_aload_n X dX7_lace_24 rfl (lv_at hl 0 rfl) ?_
          refine x_iload_n X dX7_lace_25 rfl (lv_at hl 1 rfl) ?_
          refine x_cvr X hw [iV a1] [] (c_P_weaveOf l G ad hI σ a1 hV) (cwV 1 X.2.2.2.2 gX7_lace_X7_weaveOf rfl rfl rfl hd_P_weaveOf ⟨x_fr hR.1 rfl, x_fr hR.2 rfl⟩) lx0 cX7 rfl hl.1 rfl (Nat.le_of_ble_eq_true rfl) dX7_lace_26 ⟨Nat.zero_le _, Nat.zero_le _⟩ (fun r8 σ7 H locs hV hw => ?_)
          obtain ⟨hr8, hV⟩ := hV
          refine x_astore_n X [(3, .ref (ad r8)), (0, .ref (ad 0)), (1, iV a1), (2, iV a2)] dX7_lace_29 rfl hl (by decide) rfl (fun ls hl => ?_)
          refine x_iload_n X dX7_lace_30 rfl (lv_at hl 3 rfl) ?_
          by_cases hc0 : i32 a2 = 0
          · replace hV := hV.1 hc0
            refine x_tabIn X 0 56 dX7_lace_31 (hc0) (by decide) (by decide) rfl (by decide) ?_
            refine x_aload_n X dX7_lace_56 rfl (lv_at hl 0 rfl) ?_
            refine x_geti X hw (lfWeave hr8) cX6 9 (by decide) rfl n_P_lace_1 n_P_lace_0 dX7_lace_57 ?_
            exact hret (σ7 r8 9) σ7 H locs ls 60 hV hw dX7_lace_60
          by_cases hc1 : i32 a2 = 1
          · replace hV := hV.2.1 hc1
            refine x_tabIn X 1 61 dX7_lace_31 (hc1) (by decide) (by decide) rfl (by decide) ?_
            refine x_aload_n X dX7_lace_61 rfl (lv_at hl 0 rfl) ?_
            refine x_getr X hw (lfWeave hr8) cX6 8 (by decide) rfl n_P_lace_1 n_P_lace_2 dX7_lace_62 ?_
            refine x_geti X hw (lfWeave9 hr8) cX1 0 (by decide) rfl n_P_lace_4 n_P_lace_3 dX7_lace_65 ?_
            exact hret (σ7 (r8 + 9) 0) σ7 H locs ls 68 hV hw dX7_lace_68
          by_cases hc2 : i32 a2 = 2
          · replace hV := hV.2.2.1 hc2
            refine x_tabIn X 2 69 dX7_lace_31 (hc2) (by decide) (by decide) rfl (by decide) ?_
            refine x_aload_n X dX7_lace_69 rfl (lv_at hl 0 rfl) ?_
            refine x_getr X hw (lfWeave hr8) cX6 8 (by decide) rfl n_P_lace_1 n_P_lace_2 dX7_lace_70 ?_
            refine x_cvi X hw [] [] (c_Heap_countLayers l G ad hI (r8 + 9) (hpWv hr8) σ7 hV) (cwV 0 X.2.2.2.2 gX7_lace_X1_countLayers rfl rfl rfl hd_Heap_countLayers ⟨x_fr hR.1 rfl, x_fr hR.2 rfl⟩) (lfWeave9 hr8) cX1 rfl hl.1 rfl (Nat.le_of_ble_eq_true rfl) dX7_lace_73 ⟨Nat.zero_le _, Nat.zero_le _⟩ (fun r10 σ9 H locs hV hw => ?_)
            exact hret r10 σ9 H locs ls 76 hV hw dX7_lace_76
          have hc : i32 a2 < 0 ∨ 2 < i32 a2 := by omega
          replace hV := hV.2.2.2 hc
          refine x_tabOut X 77 dX7_lace_31 hc (by decide) ?_
          refine x_aload_n X dX7_lace_77 rfl (lv_at hl 0 rfl) ?_
          refine x_getr X hw (lfWeave hr8) cX6 8 (by decide) rfl n_P_lace_1 n_P_lace_2 dX7_lace_78 ?_
          refine x_iconst X dX7_lace_81 ?_
          refine x_cvi X hw [iV 1] [] (c_Heap_countSign l G ad hI (r8 + 9) (hpWv hr8) σ7 1 hV) (cwV 1 X.2.2.2.2 gX7_lace_X1_countSign rfl rfl rfl hd_Heap_countSign ⟨x_fr hR.1 rfl, x_fr hR.2 rfl⟩) (lfWeave9 hr8) cX1 rfl hl.1 rfl (Nat.le_of_ble_eq_true rfl) dX7_lace_82 ⟨Nat.zero_le _, Nat.zero_le _⟩ (fun r12 σ11 H locs hV hw => ?_)
          exact hret r12 σ11 H locs ls 85 hV hw dX7_lace_85
        · replace hV := hV.2 hc
          refine x_aload_n X dX7_lace_18 rfl (lv_at hl 0 rfl) ?_
          refine x_iconst X dX7_lace_19 ?_
          refine x_cvi X hw [iV 1] [] (c_P_fail l G ad hI σ 1 hV) (cwV 1 X.2.2.2.2 gX7_lace_X7_fail rfl rfl rfl hd_P_fail ⟨x_fr hR.1 rfl, x_fr hR.2 rfl⟩) lx0 cX7 rfl hl.1 rfl (Nat.le_of_ble_eq_true rfl) dX7_lace_20 ⟨Nat.zero_le _, Nat.zero_le _⟩ (fun r14 σ13 H locs hV hw => ?_)
          exact hret r14 σ13 H locs ls 23 hV hw dX7_lace_23

theorem n_P_layer_0 : Cond.fieldLink RX7 12 "LacePillow" "plan" "LLacePillow$Plan;" ∈ wsX7_layer := by decide +kernel
theorem n_P_layer_1 : ∀ w ∈ wsX70, w ∈ wsX7_layer := by decide +kernel
theorem n_P_layer_2 : Cond.fieldLink RX7 84 "LacePillow$Plan" "pairs" "I" ∈ wsX7_layer := by decide +kernel
theorem n_P_layer_3 : ∀ w ∈ wsX20, w ∈ wsX7_layer := by decide +kernel
theorem n_P_layer_4 : Cond.fieldLink RX7 142 "LacePillow$Weave" "heap" "LLacePillow$Heap;" ∈ wsX7_layer := by decide +kernel
theorem n_P_layer_5 : ∀ w ∈ wsX60, w ∈ wsX7_layer := by decide +kernel
set_option maxHeartbeats 4000000 in
set_option maxRecDepth 100000 in
theorem c_P_layer (l : Launch) (G : GT) (ad : Nat → Nat) (hI : Inj LX ad) (σ : St) (a1 : Int) (a2 : Int) (a3 : Int) {Q : Int → St → Prop} (hV : V_P_layer σ a1 a2 a3 Q) : Met l yX7_layer wsX7_layer (rmx 6 148) (Pq vwCl G LX ad σ [.ref (ad 0), iV a1, iV a2, iV a3]) (Qi vwCl G LX ad Q) 0 0 (Ax LX ad) := by
  unfold V_P_layer at hV
  refine x_meti (own := RX7) (by decide) rfl rfl (Nat.le_of_ble_eq_true rfl) hI ?_
  intro p e s m args below meth c R QQ X hR hret ls hl hw
  replace hl : lv_has ls 4 [(0, .ref (ad 0)), (1, iV a1), (2, iV a2), (3, iV a3)] := hl
  obtain ⟨H, hH⟩ : ∃ z, z = s.heap := ⟨_, rfl⟩
  obtain ⟨locs, hlo⟩ : ∃ z : List Loc, z = [] := ⟨_, rfl⟩
  rw [← hH, ← hlo]
  replace hw : Wx vwCl G LX ad s H locs σ := by rw [hH, hlo]; exact hw
  clear hH hlo
  refine x_iload_n X dX7_layer_0 rfl (lv_at hl 1 rfl) ?_
  refine x_if_lt X rfl 32 dX7_layer_1 (by decide) (fun hc => ?_) (fun hc => ?_)
  · replace hV := hV.1 hc
    refine x_aload_n X dX7_layer_32 rfl (lv_at hl 0 rfl) ?_
    refine x_iconst X dX7_layer_33 ?_
    refine x_cvi X hw [iV 1] [] (c_P_fail l G ad hI σ 1 hV) (cwV 1 X.2.2.2.2 gX7_layer_X7_fail rfl rfl rfl hd_P_fail ⟨x_fr hR.1 rfl, x_fr hR.2 rfl⟩) lx0 cX7 rfl hl.1 rfl (Nat.le_of_ble_eq_true rfl) dX7_layer_34 ⟨Nat.zero_le _, Nat.zero_le _⟩ (fun r2 σ1 H locs hV hw => ?_)
    exact hret r2 σ1 H locs ls 37 hV hw dX7_layer_37
  · replace hV := hV.2 hc
    refine x_iload_n X dX7_layer_4 rfl (lv_at hl 1 rfl) ?_
    refine x_iconst X dX7_layer_5 ?_
    refine x_icmp_gt X rfl k32_1 32 dX7_layer_6 (by decide) (fun hc => ?_) (fun hc => ?_)
    · replace hV := hV.1 hc
      refine x_aload_n X dX7_layer_32 rfl (lv_at hl 0 rfl) ?_
      refine x_iconst X dX7_layer_33 ?_
      refine x_cvi X hw [iV 1] [] (c_P_fail l G ad hI σ 1 hV) (cwV 1 X.2.2.2.2 gX7_layer_X7_fail rfl rfl rfl hd_P_fail ⟨x_fr hR.1 rfl, x_fr hR.2 rfl⟩) lx0 cX7 rfl hl.1 rfl (Nat.le_of_ble_eq_true rfl) dX7_layer_34 ⟨Nat.zero_le _, Nat.zero_le _⟩ (fun r4 σ3 H locs hV hw => ?_)
      exact hret r4 σ3 H locs ls 37 hV hw dX7_layer_37
    · replace hV := hV.2 hc
      refine x_iload_n X dX7_layer_9 rfl (lv_at hl 2 rfl) ?_
      refine x_if_lt X rfl 32 dX7_layer_10 (by decide) (fun hc => ?_) (fun hc => ?_)
      · replace hV := hV.1 hc
        refine x_aload_n X dX7_layer_32 rfl (lv_at hl 0 rfl) ?_
        refine x_iconst X dX7_layer_33 ?_
        refine x_cvi X hw [iV 1] [] (c_P_fail l G ad hI σ 1 hV) (cwV 1 X.2.2.2.2 gX7_layer_X7_fail rfl rfl rfl hd_P_fail ⟨x_fr hR.1 rfl, x_fr hR.2 rfl⟩) lx0 cX7 rfl hl.1 rfl (Nat.le_of_ble_eq_true rfl) dX7_layer_34 ⟨Nat.zero_le _, Nat.zero_le _⟩ (fun r6 σ5 H locs hV hw => ?_)
        exact hret r6 σ5 H locs ls 37 hV hw dX7_layer_37
      · replace hV := hV.2 hc
        refine x_iload_n X dX7_layer_13 rfl (lv_at hl 3 rfl) ?_
        refine x_if_lt X rfl 32 dX7_layer_14 (by decide) (fun hc => ?_) (fun hc => ?_)
        · replace hV := hV.1 hc
          refine x_aload_n X dX7_layer_32 rfl (lv_at hl 0 rfl) ?_
          refine x_iconst X dX7_layer_33 ?_
          refine x_cvi X hw [iV 1] [] (c_P_fail l G ad hI σ 1 hV) (cwV 1 X.2.2.2.2 gX7_layer_X7_fail rfl rfl rfl hd_P_fail ⟨x_fr hR.1 rfl, x_fr hR.2 rfl⟩) lx0 cX7 rfl hl.1 rfl (Nat.le_of_ble_eq_true rfl) dX7_layer_34 ⟨Nat.zero_le _, Nat.zero_le _⟩ (fun r8 σ7 H locs hV hw => ?_)
          exact hret r8 σ7 H locs ls 37 hV hw dX7_layer_37
        · replace hV := hV.2 hc
          refine x_iload_n X dX7_layer_17 rfl (lv_at hl 3 rfl) ?_
          refine x_iconst X dX7_layer_18 ?_
          refine x_aload_n X dX7_layer_19 rfl (lv_at hl 0 rfl) ?_
          refine x_getr X hw lx0 cX7 0 (by decide) rfl n_P_layer_1 n_P_layer_0 dX7_layer_20 ?_
          refine x_geti X hw lx1 cX2 0 (by decide) rfl n_P_layer_3 n_P_layer_2 dX7_layer_23 ?_
          refine x_imul X dX7_layer_26 ?_
          refine x_iconst X dX7_layer_27 ?_
          refine x_isub X dX7_layer_28 ?_
          refine x_icmp_le X rfl rfl 38 dX7_layer_29 (by decide) (fun hc => ?_) (fun hc => ?_)
          · replace hV := hV.1 hc
            refine x_aload_n X dX7_layer_38 rfl (lv_at hl 0 rfl) ?_
            refine x_iload_n X dX7_layer_39 rfl (lv_at hl 1 rfl) ?_
            refine x_cvr X hw [iV a1] [] (c_P_weaveOf l G ad hI σ a1 hV) (cwV 1 X.2.2.2.2 gX7_layer_X7_weaveOf rfl rfl rfl hd_P_weaveOf ⟨x_fr hR.1 rfl, x_fr hR.2 rfl⟩) lx0 cX7 rfl hl.1 rfl (Nat.le_of_ble_eq_true rfl) dX7_layer_40 ⟨Nat.zero_le _, Nat.zero_le _⟩ (fun r10 σ9 H locs hV hw => ?_)
            obtain ⟨hr10, hV⟩ := hV
            refine x_getr X hw (lfWeave hr10) cX6 8 (by decide) rfl n_P_layer_5 n_P_layer_4 dX7_layer_43 ?_
            refine x_iload_n X dX7_layer_46 rfl (lv_at hl 2 rfl) ?_
            refine x_iload_n X dX7_layer_47 rfl (lv_at hl 3 rfl) ?_
            refine x_cvi X hw [iV a2, iV a3] [] (c_Heap_signAt l G ad hI (r10 + 9) (hpWv hr10) σ9 a2 a3 hV) (cwV 2 X.2.2.2.2 gX7_layer_X1_signAt rfl rfl rfl hd_Heap_signAt ⟨x_fr hR.1 rfl, x_fr hR.2 rfl⟩) (lfWeave9 hr10) cX1 rfl hl.1 rfl (Nat.le_of_ble_eq_true rfl) dX7_layer_48 ⟨Nat.zero_le _, Nat.zero_le _⟩ (fun r12 σ11 H locs hV hw => ?_)
            exact hret r12 σ11 H locs ls 51 hV hw dX7_layer_51
          · replace hV := hV.2 hc
            refine x_aload_n X dX7_layer_32 rfl (lv_at hl 0 rfl) ?_
            refine x_iconst X dX7_layer_33 ?_
            refine x_cvi X hw [iV 1] [] (c_P_fail l G ad hI σ 1 hV) (cwV 1 X.2.2.2.2 gX7_layer_X7_fail rfl rfl rfl hd_P_fail ⟨x_fr hR.1 rfl, x_fr hR.2 rfl⟩) lx0 cX7 rfl hl.1 rfl (Nat.le_of_ble_eq_true rfl) dX7_layer_34 ⟨Nat.zero_le _, Nat.zero_le _⟩ (fun r14 σ13 H locs hV hw => ?_)
            exact hret r14 σ13 H locs ls 37 hV hw dX7_layer_37

theorem n_P_repeat_0 : Cond.fieldLink RX7 33 "LacePillow" "ground" "LLacePillow$Ground;" ∈ wsX7_repeat := by decide +kernel
theorem n_P_repeat_1 : ∀ w ∈ wsX70, w ∈ wsX7_repeat := by decide +kernel
theorem n_P_repeat_2 : Cond.fieldLink RX7 156 "LacePillow$Ground" "deep" "I" ∈ wsX7_repeat := by decide +kernel
theorem n_P_repeat_3 : ∀ w ∈ wsX00, w ∈ wsX7_repeat := by decide +kernel
theorem n_P_repeat_4 : Cond.fieldLink RX7 12 "LacePillow" "plan" "LLacePillow$Plan;" ∈ wsX7_repeat := by decide +kernel
set_option maxHeartbeats 4000000 in
set_option maxRecDepth 100000 in
theorem c_P_repeat (l : Launch) (G : GT) (ad : Nat → Nat) (hI : Inj LX ad) (σ : St) {Q : Int → St → Prop} (hV : V_P_repeat σ Q) : Met l yX7_repeat wsX7_repeat (rmx 1 24) (Pq vwCl G LX ad σ [.ref (ad 0)]) (Qi vwCl G LX ad Q) 0 0 (Ax LX ad) := by
  unfold V_P_repeat at hV
  refine x_meti (own := RX7) (by decide) rfl rfl (Nat.le_of_ble_eq_true rfl) hI ?_
  intro p e s m args below meth c R QQ X hR hret ls hl hw
  replace hl : lv_has ls 2 [(0, .ref (ad 0))] := hl
  obtain ⟨H, hH⟩ : ∃ z, z = s.heap := ⟨_, rfl⟩
  obtain ⟨locs, hlo⟩ : ∃ z : List Loc, z = [] := ⟨_, rfl⟩
  rw [← hH, ← hlo]
  replace hw : Wx vwCl G LX ad s H locs σ := by rw [hH, hlo]; exact hw
  clear hH hlo
  refine x_iconst X dX7_repeat_0 ?_
  refine x_istore_n X [(1, iV 1), (0, .ref (ad 0))] dX7_repeat_1 rfl hl (by decide) rfl (fun ls hl => ?_)
  refine WL1.use (Gl := fun x1_1 σ2 => ∀ (H : Heap) (locs : List Loc) (ls : Array Slot), Wx vwCl G LX ad s H locs σ2 → lv_has ls 2 [(1, iV x1_1), (0, .ref (ad 0))] → W p l e R s m args below meth c H locs 0 0 QQ (F0 m 2 ls [])) ?_ hV H locs ls hw hl
  clear hV hw hl H locs ls
  intro bk3 x1_1 σ2 hbk3 hV H locs ls hw hl
  refine x_iload_n X dX7_repeat_2 rfl (lv_at hl 0 rfl) ?_
  refine x_aload_n X dX7_repeat_3 rfl (lv_at hl 1 rfl) ?_
  refine x_getr X hw lx0 cX7 4 (by decide) rfl n_P_repeat_1 n_P_repeat_0 dX7_repeat_4 ?_
  refine x_geti X hw lx16 cX0 1 (by decide) rfl n_P_repeat_3 n_P_repeat_2 dX7_repeat_7 ?_
  refine x_icmp_gt X rfl rfl 39 dX7_repeat_10 (by decide) (fun hc => ?_) (fun hc => ?_)
  · replace hV := hV.1 hc
    refine x_aload_n X dX7_repeat_39 rfl (lv_at hl 1 rfl) ?_
    refine x_iconst X dX7_repeat_40 ?_
    refine x_cvi X hw [iV 2] [] (c_P_fail l G ad hI σ2 2 hV) (cwV 1 X.2.2.2.2 gX7_repeat_X7_fail rfl rfl rfl hd_P_fail ⟨x_fr hR.1 rfl, x_fr hR.2 rfl⟩) lx0 cX7 rfl hl.1 rfl (Nat.le_of_ble_eq_true rfl) dX7_repeat_41 ⟨Nat.zero_le _, Nat.zero_le _⟩ (fun r5 σ4 H locs hV hw => ?_)
    exact hret r5 σ4 H locs ls 44 hV hw dX7_repeat_44
  · replace hV := hV.2 hc
    refine x_aload_n X dX7_repeat_13 rfl (lv_at hl 1 rfl) ?_
    refine x_getr X hw lx0 cX7 0 (by decide) rfl n_P_repeat_1 n_P_repeat_4 dX7_repeat_14 ?_
    refine x_iload_n X dX7_repeat_17 rfl (lv_at hl 0 rfl) ?_
    refine x_aload_n X dX7_repeat_18 rfl (lv_at hl 1 rfl) ?_
    refine x_getr X hw lx0 cX7 4 (by decide) rfl n_P_repeat_1 n_P_repeat_0 dX7_repeat_19 ?_
    refine x_geti X hw lx16 cX0 1 (by decide) rfl n_P_repeat_3 n_P_repeat_2 dX7_repeat_22 ?_
    refine x_cvz X hw [iV x1_1, iV (σ2 16 1)] [] (c_Plan_repeatsBy l G ad hI σ2 x1_1 (σ2 16 1) hV) (cwV 2 X.2.2.2.2 gX7_repeat_X2_repeatsBy rfl rfl rfl hd_Plan_repeatsBy ⟨x_fr hR.1 rfl, x_fr hR.2 rfl⟩) lx1 cX2 rfl hl.1 rfl (Nat.le_of_ble_eq_true rfl) dX7_repeat_25 ⟨Nat.zero_le _, Nat.zero_le _⟩ (fun r7 σ6 H locs hr7 hV hw => ?_)
    refine x_if_eq X rfl 33 dX7_repeat_28 (by decide) (fun hc => ?_) (fun hc => ?_)
    · replace hV := hV.1 hc
      refine x_iinc X (k := 0) (x1_1 + 1) [(1, iV (x1_1 + 1)), (0, .ref (ad 0))] dX7_repeat_33 hl rfl rfl (by decide) rfl (fun ls hl => ?_)
      refine x_goto X 2 dX7_repeat_36 (by decide) ?_
      exact hbk3 (x1_1 + 1) σ6 hV H locs ls hw hl
    · replace hV := hV.2 hc
      refine x_iload_n X dX7_repeat_31 rfl (lv_at hl 0 rfl) ?_
      exact hret x1_1 σ6 H locs ls 32 hV hw dX7_repeat_32

theorem n_P_motif_0 : Cond.fieldLink RX7 71 "LacePillow" "sheets" "[LLacePillow$Sheet;" ∈ wsX7_motif := by decide +kernel
theorem n_P_motif_1 : ∀ w ∈ wsX70, w ∈ wsX7_motif := by decide +kernel
theorem n_P_motif_2 : Cond.fieldLink RX7 231 "LacePillow$Sheet" "sort" "I" ∈ wsX7_motif := by decide +kernel
theorem n_P_motif_3 : ∀ w ∈ wsX30, w ∈ wsX7_motif := by decide +kernel
theorem n_P_motif_4 : Cond.fieldLink RX7 244 "LacePillow$Sheet" "size" "I" ∈ wsX7_motif := by decide +kernel
theorem n_P_motif_5 : Cond.fieldLink RX7 12 "LacePillow" "plan" "LLacePillow$Plan;" ∈ wsX7_motif := by decide +kernel
theorem n_P_motif_6 : Cond.fieldLink RX7 84 "LacePillow$Plan" "pairs" "I" ∈ wsX7_motif := by decide +kernel
theorem n_P_motif_7 : ∀ w ∈ wsX20, w ∈ wsX7_motif := by decide +kernel
set_option maxHeartbeats 4000000 in
set_option maxRecDepth 100000 in
theorem c_P_motif (l : Launch) (G : GT) (ad : Nat → Nat) (hI : Inj LX ad) (σ : St) (a1 : Int) (a2 : Int) (a3 : Int) {Q : Int → St → Prop} (hV : V_P_motif σ a1 a2 a3 Q) : Met l yX7_motif wsX7_motif (rmx 2 49) (Pq vwCl G LX ad σ [.ref (ad 0), iV a1, iV a2, iV a3]) (Qi vwCl G LX ad Q) 0 0 (Ax LX ad) := by
  unfold V_P_motif at hV
  refine x_meti (own := RX7) (by decide) rfl rfl (Nat.le_of_ble_eq_true rfl) hI ?_
  intro p e s m args below meth c R QQ X hR hret ls hl hw
  replace hl : lv_has ls 8 [(0, .ref (ad 0)), (1, iV a1), (2, iV a2), (3, iV a3)] := hl
  obtain ⟨H, hH⟩ : ∃ z, z = s.heap := ⟨_, rfl⟩
  obtain ⟨locs, hlo⟩ : ∃ z : List Loc, z = [] := ⟨_, rfl⟩
  rw [← hH, ← hlo]
  replace hw : Wx vwCl G LX ad s H locs σ := by rw [hH, hlo]; exact hw
  clear hH hlo
  refine x_iload_n X dX7_motif_0 rfl (lv_at hl 1 rfl) ?_
  refine x_csz X hw [iV a1] [] (c_P_isSheet l G ad hI σ a1 hV) (va_cwS 1 X.2.2.2.2 gX7_motif_X7_isSheet rfl rfl rfl hd_P_isSheet ⟨x_fr hR.1 rfl, x_fr hR.2 rfl⟩) rfl hl.1 rfl (Nat.le_of_ble_eq_true rfl) dX7_motif_1 ⟨Nat.zero_le _, Nat.zero_le _⟩ (fun r2 σ1 H locs hr2 hV hw => ?_)
  refine x_if_eq X rfl 27 dX7_motif_4 (by decide) (fun hc => ?_) (fun hc => ?_)
  · replace hV := hV.1 hc
    refine x_aload_n X dX7_motif_27 rfl (lv_at hl 0 rfl) ?_
    refine x_iconst X dX7_motif_28 ?_
    refine x_cvi X hw [iV 1] [] (c_P_fail l G ad hI σ1 1 hV) (cwV 1 X.2.2.2.2 gX7_motif_X7_fail rfl rfl rfl hd_P_fail ⟨x_fr hR.1 rfl, x_fr hR.2 rfl⟩) lx0 cX7 rfl hl.1 rfl (Nat.le_of_ble_eq_true rfl) dX7_motif_29 ⟨Nat.zero_le _, Nat.zero_le _⟩ (fun r4 σ3 H locs hV hw => ?_)
    exact hret r4 σ3 H locs ls 32 hV hw dX7_motif_32
  · replace hV := hV.2 hc
    refine x_iload_n X dX7_motif_7 rfl (lv_at hl 2 rfl) ?_
    refine x_iconst X dX7_motif_8 ?_
    refine x_icmp_lt X rfl k32_1 27 dX7_motif_9 (by decide) (fun hc => ?_) (fun hc => ?_)
    · replace hV := hV.1 hc
      refine x_aload_n X dX7_motif_27 rfl (lv_at hl 0 rfl) ?_
      refine x_iconst X dX7_motif_28 ?_
      refine x_cvi X hw [iV 1] [] (c_P_fail l G ad hI σ1 1 hV) (cwV 1 X.2.2.2.2 gX7_motif_X7_fail rfl rfl rfl hd_P_fail ⟨x_fr hR.1 rfl, x_fr hR.2 rfl⟩) lx0 cX7 rfl hl.1 rfl (Nat.le_of_ble_eq_true rfl) dX7_motif_29 ⟨Nat.zero_le _, Nat.zero_le _⟩ (fun r6 σ5 H locs hV hw => ?_)
      exact hret r6 σ5 H locs ls 32 hV hw dX7_motif_32
    · replace hV := hV.2 hc
      refine x_iload_n X dX7_motif_12 rfl (lv_at hl 2 rfl) ?_
      refine x_bipush X dX7_motif_13 (by decide) ?_
      refine x_icmp_gt X rfl k32_7 27 dX7_motif_15 (by decide) (fun hc => ?_) (fun hc => ?_)
      · replace hV := hV.1 hc
        refine x_aload_n X dX7_motif_27 rfl (lv_at hl 0 rfl) ?_
        refine x_iconst X dX7_motif_28 ?_
        refine x_cvi X hw [iV 1] [] (c_P_fail l G ad hI σ1 1 hV) (cwV 1 X.2.2.2.2 gX7_motif_X7_fail rfl rfl rfl hd_P_fail ⟨x_fr hR.1 rfl, x_fr hR.2 rfl⟩) lx0 cX7 rfl hl.1 rfl (Nat.le_of_ble_eq_true rfl) dX7_motif_29 ⟨Nat.zero_le _, Nat.zero_le _⟩ (fun r8 σ7 H locs hV hw => ?_)
        exact hret r8 σ7 H locs ls 32 hV hw dX7_motif_32
      · replace hV := hV.2 hc
        refine x_iload_n X dX7_motif_18 rfl (lv_at hl 3 rfl) ?_
        refine x_if_lt X rfl 27 dX7_motif_19 (by decide) (fun hc => ?_) (fun hc => ?_)
        · replace hV := hV.1 hc
          refine x_aload_n X dX7_motif_27 rfl (lv_at hl 0 rfl) ?_
          refine x_iconst X dX7_motif_28 ?_
          refine x_cvi X hw [iV 1] [] (c_P_fail l G ad hI σ1 1 hV) (cwV 1 X.2.2.2.2 gX7_motif_X7_fail rfl rfl rfl hd_P_fail ⟨x_fr hR.1 rfl, x_fr hR.2 rfl⟩) lx0 cX7 rfl hl.1 rfl (Nat.le_of_ble_eq_true rfl) dX7_motif_29 ⟨Nat.zero_le _, Nat.zero_le _⟩ (fun r10 σ9 H locs hV hw => ?_)
          exact hret r10 σ9 H locs ls 32 hV hw dX7_motif_32
        · replace hV := hV.2 hc
          refine x_iload_n X dX7_motif_22 rfl (lv_at hl 3 rfl) ?_
          refine x_iconst X dX7_motif_23 ?_
          refine x_icmp_le X rfl k32_1 33 dX7_motif_24 (by decide) (fun hc => ?_) (fun hc => ?_)
          · replace hV := hV.1 hc
            refine x_aload_n X dX7_motif_33 rfl (lv_at hl 0 rfl) ?_
            refine x_getr X hw lx0 cX7 11 (by decide) rfl n_P_motif_1 n_P_motif_0 dX7_motif_34 ?_
            refine x_iload_n X dX7_motif_37 rfl (lv_at hl 1 rfl) ?_
            obtain ⟨hi, hV⟩ := hV
            obtain ⟨q11, hq, eq11, hq11⟩ := sh_at hi
            replace hV := hV q11 eq11
            refine x_aald X hw lx55 rfl rfl hi q11 hq dX7_motif_38 ?_
            refine x_astore X [(4, .ref (ad q11)), (0, .ref (ad 0)), (1, iV a1), (2, iV a2), (3, iV a3)] dX7_motif_39 hl (by decide) rfl (fun ls hl => ?_)
            refine x_aload X dX7_motif_41 (lv_at hl 0 rfl) ?_
            refine x_geti X hw (lfSheet hq11) cX3 0 (by decide) rfl n_P_motif_3 n_P_motif_2 dX7_motif_43 ?_
            refine x_iconst X dX7_motif_46 ?_
            refine x_icmp_ne X rfl k32_m1 57 dX7_motif_47 (by decide) (fun hc => ?_) (fun hc => ?_)
            · replace hV := hV.1 hc
              refine x_aload X dX7_motif_57 (lv_at hl 0 rfl) ?_
              refine x_geti X hw (lfSheet hq11) cX3 1 (by decide) rfl n_P_motif_3 n_P_motif_4 dX7_motif_59 ?_
              refine x_if_eq X rfl 75 dX7_motif_62 (by decide) (fun hc => ?_) (fun hc => ?_)
              · replace hV := hV.1 hc
                refine x_aload_n X dX7_motif_75 rfl (lv_at hl 1 rfl) ?_
                refine x_iconst X dX7_motif_76 ?_
                refine x_cvi X hw [iV 3] [] (c_P_fail l G ad hI σ1 3 hV) (cwV 1 X.2.2.2.2 gX7_motif_X7_fail rfl rfl rfl hd_P_fail ⟨x_fr hR.1 rfl, x_fr hR.2 rfl⟩) lx0 cX7 rfl hl.1 rfl (Nat.le_of_ble_eq_true rfl) dX7_motif_77 ⟨Nat.zero_le _, Nat.zero_le _⟩ (fun r13 σ12 H locs hV hw => ?_)
                exact hret r13 σ12 H locs ls 80 hV hw dX7_motif_80
              · replace hV := hV.2 hc
                refine x_aload X dX7_motif_65 (lv_at hl 0 rfl) ?_
                refine x_geti X hw (lfSheet hq11) cX3 1 (by decide) rfl n_P_motif_3 n_P_motif_4 dX7_motif_67 ?_
                refine x_iload_n X dX7_motif_70 rfl (lv_at hl 3 rfl) ?_
                obtain ⟨hn, hV⟩ := hV
                refine x_irem X dX7_motif_71 hn ?_
                refine x_if_eq X rfl 81 dX7_motif_72 (by decide) (fun hc => ?_) (fun hc => ?_)
                · replace hV := hV.1 hc
                  refine x_iconst X dX7_motif_81 ?_
                  refine x_istore X [(5, iV 0), (4, .ref (ad q11)), (0, .ref (ad 0)), (1, iV a1), (2, iV a2), (3, iV a3)] dX7_motif_82 hl (by decide) rfl (fun ls hl => ?_)
                  refine x_iconst X dX7_motif_84 ?_
                  refine x_istore X [(6, iV 0), (5, iV 0), (4, .ref (ad q11)), (0, .ref (ad 0)), (1, iV a1), (2, iV a2), (3, iV a3)] dX7_motif_85 hl (by decide) rfl (fun ls hl => ?_)
                  refine WL2.use (Gl := fun x6_14 x5_15 σ16 => ∀ (H : Heap) (locs : List Loc) (ls : Array Slot), Wx vwCl G LX ad s H locs σ16 → lv_has ls 8 [(6, iV x6_14), (5, iV x5_15), (4, .ref (ad q11)), (0, .ref (ad 0)), (2, iV a2), (3, iV a3)] → W p l e R s m args below meth c H locs 0 0 QQ (F0 m 87 ls [])) ?_ hV H locs ls hw (lv_sub hl [0, 1, 2, 3, 5, 6] rfl)
                  clear hV hw hl H locs ls
                  intro bk17 x6_14 x5_15 σ16 hbk17 hV H locs ls hw hl
                  refine x_iload X dX7_motif_87 (lv_at hl 0 rfl) ?_
                  refine x_bipush X dX7_motif_89 (by decide) ?_
                  refine x_icmp_ge X rfl k32_12 157 dX7_motif_91 (by decide) (fun hc => ?_) (fun hc => ?_)
                  · replace hV := hV.1 hc
                    refine x_iload_n X dX7_motif_157 rfl (lv_at hl 5 rfl) ?_
                    refine x_iconst X dX7_motif_158 ?_
                    refine x_icmp_ne X rfl k32_1 170 dX7_motif_159 (by decide) (fun hc => ?_) (fun hc => ?_)
                    · replace hV := hV.1 hc
                      refine x_iload X dX7_motif_170 (lv_at hl 1 rfl) ?_
                      exact hret x5_15 σ16 H locs ls 172 hV hw dX7_motif_172
                    · replace hV := hV.2 hc
                      refine x_aload_n X dX7_motif_162 rfl (lv_at hl 3 rfl) ?_
                      refine x_iconst X dX7_motif_163 ?_
                      refine x_cvi X hw [iV 2] [] (c_P_fail l G ad hI σ16 2 hV) (cwV 1 X.2.2.2.2 gX7_motif_X7_fail rfl rfl rfl hd_P_fail ⟨x_fr hR.1 rfl, x_fr hR.2 rfl⟩) lx0 cX7 rfl hl.1 rfl (Nat.le_of_ble_eq_true rfl) dX7_motif_164 ⟨Nat.zero_le _, Nat.zero_le _⟩ (fun r19 σ18 H locs hV hw => ?_)
                      refine x_goto X 172 dX7_motif_167 (by decide) ?_
                      exact hret r19 σ18 H locs ls 172 hV hw dX7_motif_172
                  · replace hV := hV.2 hc
                    refine x_iconst X dX7_motif_94 ?_
                    refine x_istore X [(7, iV 0), (6, iV x6_14), (5, iV x5_15), (4, .ref (ad q11)), (0, .ref (ad 0)), (2, iV a2), (3, iV a3)] dX7_motif_95 hl (by decide) rfl (fun ls hl => ?_)
                    refine WL2.use (Gl := fun x7_20 x5_21 σ22 => ∀ (H : Heap) (locs : List Loc) (ls : Array Slot), Wx vwCl G LX ad s H locs σ22 → lv_has ls 8 [(7, iV x7_20), (6, iV x6_14), (5, iV x5_21), (4, .ref (ad q11)), (0, .ref (ad 0)), (2, iV a2), (3, iV a3)] → W p l e R s m args below meth c H locs 0 0 QQ (F0 m 97 ls [])) ?_ hV H locs ls hw hl
                    clear hV hw hl H locs ls
                    intro bk23 x7_20 x5_21 σ22 hbk23 hV H locs ls hw hl
                    refine x_iload X dX7_motif_97 (lv_at hl 0 rfl) ?_
                    refine x_aload_n X dX7_motif_99 rfl (lv_at hl 4 rfl) ?_
                    refine x_getr X hw lx0 cX7 0 (by decide) rfl n_P_motif_1 n_P_motif_5 dX7_motif_100 ?_
                    refine x_geti X hw lx1 cX2 0 (by decide) rfl n_P_motif_7 n_P_motif_6 dX7_motif_103 ?_
                    refine x_iconst X dX7_motif_106 ?_
                    refine x_isub X dX7_motif_107 ?_
                    refine x_icmp_ge X rfl rfl 151 dX7_motif_108 (by decide) (fun hc => ?_) (fun hc => ?_)
                    · replace hV := hV.1 hc
                      refine x_iinc X (k := 1) (x6_14 + 1) [(6, iV (x6_14 + 1)), (7, iV x7_20), (5, iV x5_21), (4, .ref (ad q11)), (0, .ref (ad 0)), (2, iV a2), (3, iV a3)] dX7_motif_151 hl rfl rfl (by decide) rfl (fun ls hl => ?_)
                      refine x_goto X 87 dX7_motif_154 (by decide) ?_
                      exact hbk17 (x6_14 + 1) x5_21 σ22 hV H locs ls hw (lv_sub hl [0, 2, 3, 4, 5, 6] rfl)
                    · replace hV := hV.2 hc
                      refine x_aload_n X dX7_motif_111 rfl (lv_at hl 4 rfl) ?_
                      refine x_getr X hw lx0 cX7 0 (by decide) rfl n_P_motif_1 n_P_motif_5 dX7_motif_112 ?_
                      refine x_aload X dX7_motif_115 (lv_at hl 3 rfl) ?_
                      refine x_iload_n X dX7_motif_117 rfl (lv_at hl 5 rfl) ?_
                      refine x_iload X dX7_motif_118 (lv_at hl 1 rfl) ?_
                      refine x_iload X dX7_motif_120 (lv_at hl 0 rfl) ?_
                      refine x_cvz X hw [.ref (ad q11), iV a2, iV x6_14, iV x7_20] [] (c_Plan_fits l G ad hI q11 hq11 σ22 a2 x6_14 x7_20 hV) (cwV 4 X.2.2.2.2 gX7_motif_X2_fits rfl rfl rfl hd_Plan_fits ⟨x_fr hR.1 rfl, x_fr hR.2 rfl⟩) lx1 cX2 rfl hl.1 rfl (Nat.le_of_ble_eq_true rfl) dX7_motif_122 ⟨Nat.zero_le _, Nat.zero_le _⟩ (fun r25 σ24 H locs hr25 hV hw => ?_)
                      refine x_if_eq X rfl 145 dX7_motif_125 (by decide) (fun hc => ?_) (fun hc => ?_)
                      · replace hV := hV.1 hc
                        refine x_iinc X (k := 0) (x7_20 + 1) [(7, iV (x7_20 + 1)), (6, iV x6_14), (5, iV x5_21), (4, .ref (ad q11)), (0, .ref (ad 0)), (2, iV a2), (3, iV a3)] dX7_motif_145 hl rfl rfl (by decide) rfl (fun ls hl => ?_)
                        refine x_goto X 97 dX7_motif_148 (by decide) ?_
                        exact hbk23 (x7_20 + 1) x5_21 σ24 hV H locs ls hw hl
                      · replace hV := hV.2 hc
                        refine x_iload_n X dX7_motif_128 rfl (lv_at hl 6 rfl) ?_
                        refine x_iconst X dX7_motif_129 ?_
                        refine x_icmp_ne X rfl k32_1 142 dX7_motif_130 (by decide) (fun hc => ?_) (fun hc => ?_)
                        · replace hV := hV.1 hc
                          refine x_iinc X (k := 2) (x5_21 + 1) [(5, iV (x5_21 + 1)), (7, iV x7_20), (6, iV x6_14), (4, .ref (ad q11)), (0, .ref (ad 0)), (2, iV a2), (3, iV a3)] dX7_motif_142 hl rfl rfl (by decide) rfl (fun ls hl => ?_)
                          refine x_iinc X (k := 1) (x7_20 + 1) [(7, iV (x7_20 + 1)), (5, iV (x5_21 + 1)), (6, iV x6_14), (4, .ref (ad q11)), (0, .ref (ad 0)), (2, iV a2), (3, iV a3)] dX7_motif_145 hl rfl rfl (by decide) rfl (fun ls hl => ?_)
                          refine x_goto X 97 dX7_motif_148 (by decide) ?_
                          exact hbk23 (x7_20 + 1) (x5_21 + 1) σ24 hV H locs ls hw (lv_sub hl [0, 2, 1, 3, 4, 5, 6] rfl)
                        · replace hV := hV.2 hc
                          refine x_bipush X dX7_motif_133 (by decide) ?_
                          refine x_iload X dX7_motif_135 (lv_at hl 1 rfl) ?_
                          refine x_imul X dX7_motif_137 ?_
                          refine x_iload X dX7_motif_138 (lv_at hl 0 rfl) ?_
                          refine x_iadd X dX7_motif_140 ?_
                          exact hret ((10 * x6_14) + x7_20) σ24 H locs ls 141 hV hw dX7_motif_141
                · replace hV := hV.2 hc
                  refine x_aload_n X dX7_motif_75 rfl (lv_at hl 1 rfl) ?_
                  refine x_iconst X dX7_motif_76 ?_
                  refine x_cvi X hw [iV 3] [] (c_P_fail l G ad hI σ1 3 hV) (cwV 1 X.2.2.2.2 gX7_motif_X7_fail rfl rfl rfl hd_P_fail ⟨x_fr hR.1 rfl, x_fr hR.2 rfl⟩) lx0 cX7 rfl hl.1 rfl (Nat.le_of_ble_eq_true rfl) dX7_motif_77 ⟨Nat.zero_le _, Nat.zero_le _⟩ (fun r27 σ26 H locs hV hw => ?_)
                  exact hret r27 σ26 H locs ls 80 hV hw dX7_motif_80
            · replace hV := hV.2 hc
              refine x_aload_n X dX7_motif_50 rfl (lv_at hl 1 rfl) ?_
              refine x_bipush X dX7_motif_51 (by decide) ?_
              refine x_cvi X hw [iV 7] [] (c_P_fail l G ad hI σ1 7 hV) (cwV 1 X.2.2.2.2 gX7_motif_X7_fail rfl rfl rfl hd_P_fail ⟨x_fr hR.1 rfl, x_fr hR.2 rfl⟩) lx0 cX7 rfl hl.1 rfl (Nat.le_of_ble_eq_true rfl) dX7_motif_53 ⟨Nat.zero_le _, Nat.zero_le _⟩ (fun r29 σ28 H locs hV hw => ?_)
              exact hret r29 σ28 H locs ls 56 hV hw dX7_motif_56
          · replace hV := hV.2 hc
            refine x_aload_n X dX7_motif_27 rfl (lv_at hl 0 rfl) ?_
            refine x_iconst X dX7_motif_28 ?_
            refine x_cvi X hw [iV 1] [] (c_P_fail l G ad hI σ1 1 hV) (cwV 1 X.2.2.2.2 gX7_motif_X7_fail rfl rfl rfl hd_P_fail ⟨x_fr hR.1 rfl, x_fr hR.2 rfl⟩) lx0 cX7 rfl hl.1 rfl (Nat.le_of_ble_eq_true rfl) dX7_motif_29 ⟨Nat.zero_le _, Nat.zero_le _⟩ (fun r31 σ30 H locs hV hw => ?_)
            exact hret r31 σ30 H locs ls 32 hV hw dX7_motif_32

theorem n_P_sheet_0 : Cond.fieldLink RX7 71 "LacePillow" "sheets" "[LLacePillow$Sheet;" ∈ wsX7_sheet := by decide +kernel
theorem n_P_sheet_1 : ∀ w ∈ wsX70, w ∈ wsX7_sheet := by decide +kernel
theorem n_P_sheet_2 : Cond.fieldLink RX7 231 "LacePillow$Sheet" "sort" "I" ∈ wsX7_sheet := by decide +kernel
theorem n_P_sheet_3 : ∀ w ∈ wsX30, w ∈ wsX7_sheet := by decide +kernel
set_option maxHeartbeats 4000000 in
set_option maxRecDepth 100000 in
theorem c_P_sheet (l : Launch) (G : GT) (ad : Nat → Nat) (hI : Inj LX ad) (σ : St) (a1 : Int) (a2 : Int) (a3 : Int) {Q : Int → St → Prop} (hV : V_P_sheet σ a1 a2 a3 Q) : Met l yX7_sheet wsX7_sheet (rmx 2 46) (Pq vwCl G LX ad σ [.ref (ad 0), iV a1, iV a2, iV a3]) (Qi vwCl G LX ad Q) 0 0 (Ax LX ad) := by
  unfold V_P_sheet at hV
  refine x_meti (own := RX7) (by decide) rfl rfl (Nat.le_of_ble_eq_true rfl) hI ?_
  intro p e s m args below meth c R QQ X hR hret ls hl hw
  replace hl : lv_has ls 4 [(0, .ref (ad 0)), (1, iV a1), (2, iV a2), (3, iV a3)] := hl
  obtain ⟨H, hH⟩ : ∃ z, z = s.heap := ⟨_, rfl⟩
  obtain ⟨locs, hlo⟩ : ∃ z : List Loc, z = [] := ⟨_, rfl⟩
  rw [← hH, ← hlo]
  replace hw : Wx vwCl G LX ad s H locs σ := by rw [hH, hlo]; exact hw
  clear hH hlo
  refine x_iload_n X dX7_sheet_0 rfl (lv_at hl 1 rfl) ?_
  refine x_csz X hw [iV a1] [] (c_P_isSheet l G ad hI σ a1 hV) (va_cwS 1 X.2.2.2.2 gX7_sheet_X7_isSheet rfl rfl rfl hd_P_isSheet ⟨x_fr hR.1 rfl, x_fr hR.2 rfl⟩) rfl hl.1 rfl (Nat.le_of_ble_eq_true rfl) dX7_sheet_1 ⟨Nat.zero_le _, Nat.zero_le _⟩ (fun r2 σ1 H locs hr2 hV hw => ?_)
  refine x_if_eq X rfl 17 dX7_sheet_4 (by decide) (fun hc => ?_) (fun hc => ?_)
  · replace hV := hV.1 hc
    refine x_aload_n X dX7_sheet_17 rfl (lv_at hl 0 rfl) ?_
    refine x_iconst X dX7_sheet_18 ?_
    refine x_cvi X hw [iV 1] [] (c_P_fail l G ad hI σ1 1 hV) (cwV 1 X.2.2.2.2 gX7_sheet_X7_fail rfl rfl rfl hd_P_fail ⟨x_fr hR.1 rfl, x_fr hR.2 rfl⟩) lx0 cX7 rfl hl.1 rfl (Nat.le_of_ble_eq_true rfl) dX7_sheet_19 ⟨Nat.zero_le _, Nat.zero_le _⟩ (fun r4 σ3 H locs hV hw => ?_)
    exact hret r4 σ3 H locs ls 22 hV hw dX7_sheet_22
  · replace hV := hV.2 hc
    refine x_iload_n X dX7_sheet_7 rfl (lv_at hl 2 rfl) ?_
    refine x_iconst X dX7_sheet_8 ?_
    refine x_icmp_lt X rfl k32_m1 17 dX7_sheet_9 (by decide) (fun hc => ?_) (fun hc => ?_)
    · replace hV := hV.1 hc
      refine x_aload_n X dX7_sheet_17 rfl (lv_at hl 0 rfl) ?_
      refine x_iconst X dX7_sheet_18 ?_
      refine x_cvi X hw [iV 1] [] (c_P_fail l G ad hI σ1 1 hV) (cwV 1 X.2.2.2.2 gX7_sheet_X7_fail rfl rfl rfl hd_P_fail ⟨x_fr hR.1 rfl, x_fr hR.2 rfl⟩) lx0 cX7 rfl hl.1 rfl (Nat.le_of_ble_eq_true rfl) dX7_sheet_19 ⟨Nat.zero_le _, Nat.zero_le _⟩ (fun r6 σ5 H locs hV hw => ?_)
      exact hret r6 σ5 H locs ls 22 hV hw dX7_sheet_22
    · replace hV := hV.2 hc
      refine x_iload_n X dX7_sheet_12 rfl (lv_at hl 2 rfl) ?_
      refine x_iconst X dX7_sheet_13 ?_
      refine x_icmp_le X rfl k32_3 23 dX7_sheet_14 (by decide) (fun hc => ?_) (fun hc => ?_)
      · replace hV := hV.1 hc
        refine x_iload_n X dX7_sheet_23 rfl (lv_at hl 2 rfl) ?_
        refine x_iconst X dX7_sheet_24 ?_
        refine x_icmp_ne X rfl k32_m1 40 dX7_sheet_25 (by decide) (fun hc => ?_) (fun hc => ?_)
        · replace hV := hV.1 hc
          refine x_iload_n X dX7_sheet_40 rfl (lv_at hl 3 rfl) ?_
          refine x_if_ge X rfl 50 dX7_sheet_41 (by decide) (fun hc => ?_) (fun hc => ?_)
          · replace hV := hV.1 hc
            refine x_iload_n X dX7_sheet_50 rfl (lv_at hl 3 rfl) ?_
            refine x_bipush X dX7_sheet_51 (by decide) ?_
            refine x_icmp_le X rfl k32_60 62 dX7_sheet_53 (by decide) (fun hc => ?_) (fun hc => ?_)
            · replace hV := hV.1 hc
              refine x_aload_n X dX7_sheet_62 rfl (lv_at hl 0 rfl) ?_
              refine x_getr X hw lx0 cX7 11 (by decide) rfl n_P_sheet_1 n_P_sheet_0 dX7_sheet_63 ?_
              refine x_iload_n X dX7_sheet_66 rfl (lv_at hl 1 rfl) ?_
              obtain ⟨hi, hV⟩ := hV
              obtain ⟨q7, hq, eq7, hq7⟩ := sh_at hi
              replace hV := hV q7 eq7
              refine x_aald X hw lx55 rfl rfl hi q7 hq dX7_sheet_67 ?_
              refine x_iload_n X dX7_sheet_68 rfl (lv_at hl 2 rfl) ?_
              refine x_iload_n X dX7_sheet_69 rfl (lv_at hl 3 rfl) ?_
              refine x_cvv X hw [iV a2, iV a3] [] (c_Sheet_begin l G ad hI q7 hq7 σ1 a2 a3 hV) (cwV 2 X.2.2.2.2 gX7_sheet_X3_begin rfl rfl rfl hd_Sheet_begin ⟨x_fr hR.1 rfl, x_fr hR.2 rfl⟩) (lfSheet hq7) cX3 rfl hl.1 rfl (Nat.le_of_ble_eq_true rfl) dX7_sheet_70 ⟨Nat.zero_le _, Nat.zero_le _⟩ (fun σ8 H locs hV hw => ?_)
              refine x_iconst X dX7_sheet_73 ?_
              exact hret 1 σ8 H locs ls 74 hV hw dX7_sheet_74
            · replace hV := hV.2 hc
              refine x_aload_n X dX7_sheet_56 rfl (lv_at hl 0 rfl) ?_
              refine x_iconst X dX7_sheet_57 ?_
              refine x_cvi X hw [iV 1] [] (c_P_fail l G ad hI σ1 1 hV) (cwV 1 X.2.2.2.2 gX7_sheet_X7_fail rfl rfl rfl hd_P_fail ⟨x_fr hR.1 rfl, x_fr hR.2 rfl⟩) lx0 cX7 rfl hl.1 rfl (Nat.le_of_ble_eq_true rfl) dX7_sheet_58 ⟨Nat.zero_le _, Nat.zero_le _⟩ (fun r10 σ9 H locs hV hw => ?_)
              exact hret r10 σ9 H locs ls 61 hV hw dX7_sheet_61
          · replace hV := hV.2 hc
            refine x_aload_n X dX7_sheet_44 rfl (lv_at hl 0 rfl) ?_
            refine x_iconst X dX7_sheet_45 ?_
            refine x_cvi X hw [iV 3] [] (c_P_fail l G ad hI σ1 3 hV) (cwV 1 X.2.2.2.2 gX7_sheet_X7_fail rfl rfl rfl hd_P_fail ⟨x_fr hR.1 rfl, x_fr hR.2 rfl⟩) lx0 cX7 rfl hl.1 rfl (Nat.le_of_ble_eq_true rfl) dX7_sheet_46 ⟨Nat.zero_le _, Nat.zero_le _⟩ (fun r12 σ11 H locs hV hw => ?_)
            exact hret r12 σ11 H locs ls 49 hV hw dX7_sheet_49
        · replace hV := hV.2 hc
          refine x_aload_n X dX7_sheet_28 rfl (lv_at hl 0 rfl) ?_
          refine x_getr X hw lx0 cX7 11 (by decide) rfl n_P_sheet_1 n_P_sheet_0 dX7_sheet_29 ?_
          refine x_iload_n X dX7_sheet_32 rfl (lv_at hl 1 rfl) ?_
          obtain ⟨hi, hV⟩ := hV
          obtain ⟨q13, hq, eq13, hq13⟩ := sh_at hi
          replace hV := hV q13 eq13
          refine x_aald X hw lx55 rfl rfl hi q13 hq dX7_sheet_33 ?_
          refine x_iconst X dX7_sheet_34 ?_
          refine x_puti X hw (lfSheet hq13) cX3 0 (by decide) rfl n_P_sheet_3 n_P_sheet_2 tyX3 tyX3_ok nmX3 rfl rfl rfl dX7_sheet_35 (fun H locs σ14 hs hw => ?_)
          replace hV := hV σ14 hs
          refine x_iconst X dX7_sheet_38 ?_
          exact hret 1 σ14 H locs ls 39 hV hw dX7_sheet_39
      · replace hV := hV.2 hc
        refine x_aload_n X dX7_sheet_17 rfl (lv_at hl 0 rfl) ?_
        refine x_iconst X dX7_sheet_18 ?_
        refine x_cvi X hw [iV 1] [] (c_P_fail l G ad hI σ1 1 hV) (cwV 1 X.2.2.2.2 gX7_sheet_X7_fail rfl rfl rfl hd_P_fail ⟨x_fr hR.1 rfl, x_fr hR.2 rfl⟩) lx0 cX7 rfl hl.1 rfl (Nat.le_of_ble_eq_true rfl) dX7_sheet_19 ⟨Nat.zero_le _, Nat.zero_le _⟩ (fun r16 σ15 H locs hV hw => ?_)
        exact hret r16 σ15 H locs ls 22 hV hw dX7_sheet_22

theorem n_P_put_0 : Cond.fieldLink RX7 71 "LacePillow" "sheets" "[LLacePillow$Sheet;" ∈ wsX7_put := by decide +kernel
theorem n_P_put_1 : ∀ w ∈ wsX70, w ∈ wsX7_put := by decide +kernel
theorem n_P_put_2 : Cond.fieldLink RX7 245 "LacePillow$Sheet" "numbers" "[J" ∈ wsX7_put := by decide +kernel
theorem n_P_put_3 : ∀ w ∈ wsX30, w ∈ wsX7_put := by decide +kernel
set_option maxHeartbeats 4000000 in
set_option maxRecDepth 100000 in
theorem c_P_put (l : Launch) (G : GT) (ad : Nat → Nat) (hI : Inj LX ad) (σ : St) (a1 : Int) (a2 : Int) (a3 : Int) {Q : Int → St → Prop} (hV : V_P_put σ a1 a2 a3 Q) : Met l yX7_put wsX7_put (rmx 1 22) (Pq vwCl G LX ad σ [.ref (ad 0), iV a1, iV a2, lV a3]) (Qi vwCl G LX ad Q) 0 0 (Ax LX ad) := by
  unfold V_P_put at hV
  refine x_meti (own := RX7) (by decide) rfl rfl (Nat.le_of_ble_eq_true rfl) hI ?_
  intro p e s m args below meth c R QQ X hR hret ls hl hw
  replace hl : lv_has ls 5 [(0, .ref (ad 0)), (1, iV a1), (2, iV a2), (3, lV a3)] := hl
  obtain ⟨H, hH⟩ : ∃ z, z = s.heap := ⟨_, rfl⟩
  obtain ⟨locs, hlo⟩ : ∃ z : List Loc, z = [] := ⟨_, rfl⟩
  rw [← hH, ← hlo]
  replace hw : Wx vwCl G LX ad s H locs σ := by rw [hH, hlo]; exact hw
  clear hH hlo
  refine x_iload_n X dX7_put_0 rfl (lv_at hl 1 rfl) ?_
  refine x_csz X hw [iV a1] [] (c_P_isSheet l G ad hI σ a1 hV) (va_cwS 1 X.2.2.2.2 gX7_put_X7_isSheet rfl rfl rfl hd_P_isSheet ⟨x_fr hR.1 rfl, x_fr hR.2 rfl⟩) rfl hl.1 rfl (Nat.le_of_ble_eq_true rfl) dX7_put_1 ⟨Nat.zero_le _, Nat.zero_le _⟩ (fun r2 σ1 H locs hr2 hV hw => ?_)
  refine x_if_ne X rfl 13 dX7_put_4 (by decide) (fun hc => ?_) (fun hc => ?_)
  · replace hV := hV.1 hc
    refine x_aload_n X dX7_put_13 rfl (lv_at hl 0 rfl) ?_
    refine x_getr X hw lx0 cX7 11 (by decide) rfl n_P_put_1 n_P_put_0 dX7_put_14 ?_
    refine x_iload_n X dX7_put_17 rfl (lv_at hl 1 rfl) ?_
    obtain ⟨hi, hV⟩ := hV
    obtain ⟨q3, hq, eq3, hq3⟩ := sh_at hi
    replace hV := hV q3 eq3
    refine x_aald X hw lx55 rfl rfl hi q3 hq dX7_put_18 ?_
    refine x_iload_n X dX7_put_19 rfl (lv_at hl 2 rfl) ?_
    refine x_cvz X hw [iV a2] [] (c_Sheet_has l G ad hI q3 hq3 σ1 a2 hV) (cwV 1 X.2.2.2.2 gX7_put_X3_has rfl rfl rfl hd_Sheet_has ⟨x_fr hR.1 rfl, x_fr hR.2 rfl⟩) (lfSheet hq3) cX3 rfl hl.1 rfl (Nat.le_of_ble_eq_true rfl) dX7_put_20 ⟨Nat.zero_le _, Nat.zero_le _⟩ (fun r5 σ4 H locs hr5 hV hw => ?_)
    refine x_if_ne X rfl 33 dX7_put_23 (by decide) (fun hc => ?_) (fun hc => ?_)
    · replace hV := hV.1 hc
      refine x_aload_n X dX7_put_33 rfl (lv_at hl 0 rfl) ?_
      refine x_getr X hw lx0 cX7 11 (by decide) rfl n_P_put_1 n_P_put_0 dX7_put_34 ?_
      refine x_iload_n X dX7_put_37 rfl (lv_at hl 1 rfl) ?_
      obtain ⟨hi, hV⟩ := hV
      obtain ⟨q6, hq, eq6, hq6⟩ := sh_at hi
      replace hV := hV q6 eq6
      refine x_aald X hw lx55 rfl rfl hi q6 hq dX7_put_38 ?_
      refine x_getr X hw (lfSheet hq6) cX3 2 (by decide) rfl n_P_put_3 n_P_put_2 dX7_put_39 ?_
      refine x_iload_n X dX7_put_42 rfl (lv_at hl 2 rfl) ?_
      refine x_aload_n X dX7_put_43 rfl (lv_at hl 0 rfl) ?_
      refine x_getr X hw lx0 cX7 11 (by decide) rfl n_P_put_1 n_P_put_0 dX7_put_44 ?_
      refine x_iload_n X dX7_put_47 rfl (lv_at hl 1 rfl) ?_
      obtain ⟨hi, hV⟩ := hV
      obtain ⟨q7, hq, eq7, hq7⟩ := sh_at hi
      replace hV := hV q7 eq7
      refine x_aald X hw lx55 rfl rfl hi q7 hq dX7_put_48 ?_
      refine x_lload_n X dX7_put_49 rfl (lv_at hl 3 rfl) ?_
      refine x_cvl X hw [lV a3] [iV a2, .ref (ad (q6 + 1))] (c_Sheet_cut l G ad hI q7 hq7 σ4 a3 hV) (cwV 1 X.2.2.2.2 gX7_put_X3_cut rfl rfl rfl hd_Sheet_cut ⟨x_fr hR.1 rfl, x_fr hR.2 rfl⟩) (lfSheet hq7) cX3 rfl hl.1 rfl (Nat.le_of_ble_eq_true rfl) dX7_put_50 ⟨Nat.zero_le _, Nat.zero_le _⟩ (fun r9 σ8 H locs hV hw => ?_)
      obtain ⟨hi, hV⟩ := hV
      refine x_last X hw (lfSheet1 hq6) rfl rfl hi dX7_put_53 (fun H locs σ10 hs hw => ?_)
      replace hV := hV σ10 hs
      refine x_iconst X dX7_put_54 ?_
      exact hret 1 σ10 H locs ls 55 hV hw dX7_put_55
    · replace hV := hV.2 hc
      refine x_aload_n X dX7_put_26 rfl (lv_at hl 0 rfl) ?_
      refine x_bipush X dX7_put_27 (by decide) ?_
      refine x_cvi X hw [iV 7] [] (c_P_fail l G ad hI σ4 7 hV) (cwV 1 X.2.2.2.2 gX7_put_X7_fail rfl rfl rfl hd_P_fail ⟨x_fr hR.1 rfl, x_fr hR.2 rfl⟩) lx0 cX7 rfl hl.1 rfl (Nat.le_of_ble_eq_true rfl) dX7_put_29 ⟨Nat.zero_le _, Nat.zero_le _⟩ (fun r12 σ11 H locs hV hw => ?_)
      exact hret r12 σ11 H locs ls 32 hV hw dX7_put_32
  · replace hV := hV.2 hc
    refine x_aload_n X dX7_put_7 rfl (lv_at hl 0 rfl) ?_
    refine x_iconst X dX7_put_8 ?_
    refine x_cvi X hw [iV 1] [] (c_P_fail l G ad hI σ1 1 hV) (cwV 1 X.2.2.2.2 gX7_put_X7_fail rfl rfl rfl hd_P_fail ⟨x_fr hR.1 rfl, x_fr hR.2 rfl⟩) lx0 cX7 rfl hl.1 rfl (Nat.le_of_ble_eq_true rfl) dX7_put_9 ⟨Nat.zero_le _, Nat.zero_le _⟩ (fun r14 σ13 H locs hV hw => ?_)
    exact hret r14 σ13 H locs ls 12 hV hw dX7_put_12

theorem n_P_number_0 : Cond.fieldLink RX7 71 "LacePillow" "sheets" "[LLacePillow$Sheet;" ∈ wsX7_number := by decide +kernel
theorem n_P_number_1 : ∀ w ∈ wsX70, w ∈ wsX7_number := by decide +kernel
theorem n_P_number_2 : Cond.fieldLink RX7 245 "LacePillow$Sheet" "numbers" "[J" ∈ wsX7_number := by decide +kernel
theorem n_P_number_3 : ∀ w ∈ wsX30, w ∈ wsX7_number := by decide +kernel
set_option maxHeartbeats 4000000 in
set_option maxRecDepth 100000 in
theorem c_P_number (l : Launch) (G : GT) (ad : Nat → Nat) (hI : Inj LX ad) (σ : St) (a1 : Int) (a2 : Int) {Q : Int → St → Prop} (hV : V_P_number σ a1 a2 Q) : Met l yX7_number wsX7_number (rmx 1 21) (Pq vwCl G LX ad σ [.ref (ad 0), iV a1, iV a2]) (Ql vwCl G LX ad Q) 0 0 (Ax LX ad) := by
  unfold V_P_number at hV
  refine x_metl (own := RX7) (by decide) rfl rfl (Nat.le_of_ble_eq_true rfl) hI ?_
  intro p e s m args below meth c R QQ X hR hret ls hl hw
  replace hl : lv_has ls 3 [(0, .ref (ad 0)), (1, iV a1), (2, iV a2)] := hl
  obtain ⟨H, hH⟩ : ∃ z, z = s.heap := ⟨_, rfl⟩
  obtain ⟨locs, hlo⟩ : ∃ z : List Loc, z = [] := ⟨_, rfl⟩
  rw [← hH, ← hlo]
  replace hw : Wx vwCl G LX ad s H locs σ := by rw [hH, hlo]; exact hw
  clear hH hlo
  refine x_iload_n X dX7_number_0 rfl (lv_at hl 1 rfl) ?_
  refine x_csz X hw [iV a1] [] (c_P_isSheet l G ad hI σ a1 hV) (va_cwS 1 X.2.2.2.2 gX7_number_X7_isSheet rfl rfl rfl hd_P_isSheet ⟨x_fr hR.1 rfl, x_fr hR.2 rfl⟩) rfl hl.1 rfl (Nat.le_of_ble_eq_true rfl) dX7_number_1 ⟨Nat.zero_le _, Nat.zero_le _⟩ (fun r2 σ1 H locs hr2 hV hw => ?_)
  refine x_if_ne X rfl 13 dX7_number_4 (by decide) (fun hc => ?_) (fun hc => ?_)
  · replace hV := hV.1 hc
    refine x_aload_n X dX7_number_13 rfl (lv_at hl 0 rfl) ?_
    refine x_getr X hw lx0 cX7 11 (by decide) rfl n_P_number_1 n_P_number_0 dX7_number_14 ?_
    refine x_iload_n X dX7_number_17 rfl (lv_at hl 1 rfl) ?_
    obtain ⟨hi, hV⟩ := hV
    obtain ⟨q3, hq, eq3, hq3⟩ := sh_at hi
    replace hV := hV q3 eq3
    refine x_aald X hw lx55 rfl rfl hi q3 hq dX7_number_18 ?_
    refine x_iload_n X dX7_number_19 rfl (lv_at hl 2 rfl) ?_
    refine x_cvz X hw [iV a2] [] (c_Sheet_has l G ad hI q3 hq3 σ1 a2 hV) (cwV 1 X.2.2.2.2 gX7_number_X3_has rfl rfl rfl hd_Sheet_has ⟨x_fr hR.1 rfl, x_fr hR.2 rfl⟩) (lfSheet hq3) cX3 rfl hl.1 rfl (Nat.le_of_ble_eq_true rfl) dX7_number_20 ⟨Nat.zero_le _, Nat.zero_le _⟩ (fun r5 σ4 H locs hr5 hV hw => ?_)
    refine x_if_ne X rfl 33 dX7_number_23 (by decide) (fun hc => ?_) (fun hc => ?_)
    · replace hV := hV.1 hc
      refine x_aload_n X dX7_number_33 rfl (lv_at hl 0 rfl) ?_
      refine x_getr X hw lx0 cX7 11 (by decide) rfl n_P_number_1 n_P_number_0 dX7_number_34 ?_
      refine x_iload_n X dX7_number_37 rfl (lv_at hl 1 rfl) ?_
      obtain ⟨hi, hV⟩ := hV
      obtain ⟨q6, hq, eq6, hq6⟩ := sh_at hi
      replace hV := hV q6 eq6
      refine x_aald X hw lx55 rfl rfl hi q6 hq dX7_number_38 ?_
      refine x_getr X hw (lfSheet hq6) cX3 2 (by decide) rfl n_P_number_3 n_P_number_2 dX7_number_39 ?_
      refine x_iload_n X dX7_number_42 rfl (lv_at hl 2 rfl) ?_
      obtain ⟨hi, hV⟩ := hV
      refine x_lald X hw (lfSheet1 hq6) rfl rfl hi dX7_number_43 ?_
      exact hret (σ4 (q6 + 1) (i32 a2)) σ4 H locs ls 44 hV hw dX7_number_44
    · replace hV := hV.2 hc
      refine x_aload_n X dX7_number_26 rfl (lv_at hl 0 rfl) ?_
      refine x_bipush X dX7_number_27 (by decide) ?_
      refine x_cvl X hw [iV 7] [] (c_P_failLong l G ad hI σ4 7 hV) (cwV 1 X.2.2.2.2 gX7_number_X7_failLong rfl rfl rfl hd_P_failLong ⟨x_fr hR.1 rfl, x_fr hR.2 rfl⟩) lx0 cX7 rfl hl.1 rfl (Nat.le_of_ble_eq_true rfl) dX7_number_29 ⟨Nat.zero_le _, Nat.zero_le _⟩ (fun r8 σ7 H locs hV hw => ?_)
      exact hret r8 σ7 H locs ls 32 hV hw dX7_number_32
  · replace hV := hV.2 hc
    refine x_aload_n X dX7_number_7 rfl (lv_at hl 0 rfl) ?_
    refine x_iconst X dX7_number_8 ?_
    refine x_cvl X hw [iV 1] [] (c_P_failLong l G ad hI σ1 1 hV) (cwV 1 X.2.2.2.2 gX7_number_X7_failLong rfl rfl rfl hd_P_failLong ⟨x_fr hR.1 rfl, x_fr hR.2 rfl⟩) lx0 cX7 rfl hl.1 rfl (Nat.le_of_ble_eq_true rfl) dX7_number_9 ⟨Nat.zero_le _, Nat.zero_le _⟩ (fun r10 σ9 H locs hV hw => ?_)
    exact hret r10 σ9 H locs ls 12 hV hw dX7_number_12

theorem n_P_image_0 : Cond.fieldLink RX7 16 "LacePillow" "kept" "LLacePillow$Plan;" ∈ wsX7_image := by decide +kernel
theorem n_P_image_1 : ∀ w ∈ wsX70, w ∈ wsX7_image := by decide +kernel
theorem n_P_image_2 : Cond.fieldLink RX7 12 "LacePillow" "plan" "LLacePillow$Plan;" ∈ wsX7_image := by decide +kernel
theorem n_P_image_3 : Cond.fieldLink RX7 22 "LacePillow" "keptHeap" "LLacePillow$Heap;" ∈ wsX7_image := by decide +kernel
theorem n_P_image_4 : Cond.fieldLink RX7 47 "LacePillow" "done" "LLacePillow$Weave;" ∈ wsX7_image := by decide +kernel
theorem n_P_image_5 : Cond.fieldLink RX7 142 "LacePillow$Weave" "heap" "LLacePillow$Heap;" ∈ wsX7_image := by decide +kernel
theorem n_P_image_6 : ∀ w ∈ wsX60, w ∈ wsX7_image := by decide +kernel
theorem n_P_image_7 : Cond.fieldLink RX7 26 "LacePillow" "imaged" "Z" ∈ wsX7_image := by decide +kernel
theorem n_P_image_8 : Cond.fieldLink RX7 169 "LacePillow$Plan" "worked" "I" ∈ wsX7_image := by decide +kernel
theorem n_P_image_9 : ∀ w ∈ wsX20, w ∈ wsX7_image := by decide +kernel
set_option maxHeartbeats 4000000 in
set_option maxRecDepth 100000 in
theorem c_P_image (l : Launch) (G : GT) (ad : Nat → Nat) (hI : Inj LX ad) (σ : St) {Q : Int → St → Prop} (hV : V_P_image σ Q) : Met l yX7_image wsX7_image (rmx 2 121) (Pq vwCl G LX ad σ [.ref (ad 0)]) (Qi vwCl G LX ad Q) 0 0 (Ax LX ad) := by
  unfold V_P_image at hV
  refine x_meti (own := RX7) (by decide) rfl rfl (Nat.le_of_ble_eq_true rfl) hI ?_
  intro p e s m args below meth c R QQ X hR hret ls hl hw
  replace hl : lv_has ls 1 [(0, .ref (ad 0))] := hl
  obtain ⟨H, hH⟩ : ∃ z, z = s.heap := ⟨_, rfl⟩
  obtain ⟨locs, hlo⟩ : ∃ z : List Loc, z = [] := ⟨_, rfl⟩
  rw [← hH, ← hlo]
  replace hw : Wx vwCl G LX ad s H locs σ := by rw [hH, hlo]; exact hw
  clear hH hlo
  refine x_aload_n X dX7_image_0 rfl (lv_at hl 0 rfl) ?_
  refine x_getr X hw lx0 cX7 1 (by decide) rfl n_P_image_1 n_P_image_0 dX7_image_1 ?_
  refine x_aload_n X dX7_image_4 rfl (lv_at hl 0 rfl) ?_
  refine x_getr X hw lx0 cX7 0 (by decide) rfl n_P_image_1 n_P_image_2 dX7_image_5 ?_
  refine x_cvv X hw [.ref (ad 1)] [] (c_Plan_copyFrom l G ad hI 7 1 isPlan7 isPlan1 σ hV) (cwV 1 X.2.2.2.2 gX7_image_X2_copyFrom rfl rfl rfl hd_Plan_copyFrom ⟨x_fr hR.1 rfl, x_fr hR.2 rfl⟩) lx7 cX2 rfl hl.1 rfl (Nat.le_of_ble_eq_true rfl) dX7_image_8 ⟨Nat.zero_le _, Nat.zero_le _⟩ (fun σ1 H locs hV hw => ?_)
  refine x_aload_n X dX7_image_11 rfl (lv_at hl 0 rfl) ?_
  refine x_getr X hw lx0 cX7 2 (by decide) rfl n_P_image_1 n_P_image_3 dX7_image_12 ?_
  refine x_aload_n X dX7_image_15 rfl (lv_at hl 0 rfl) ?_
  refine x_getr X hw lx0 cX7 6 (by decide) rfl n_P_image_1 n_P_image_4 dX7_image_16 ?_
  refine x_getr X hw lx29 cX6 8 (by decide) rfl n_P_image_6 n_P_image_5 dX7_image_19 ?_
  refine x_cvv X hw [.ref (ad 38)] [] (c_Heap_copyFrom l G ad hI σ1 hV) (cwV 1 X.2.2.2.2 gX7_image_X1_copyFrom rfl rfl rfl hd_Heap_copyFrom ⟨x_fr hR.1 rfl, x_fr hR.2 rfl⟩) lx13 cX1 rfl hl.1 rfl (Nat.le_of_ble_eq_true rfl) dX7_image_22 ⟨Nat.zero_le _, Nat.zero_le _⟩ (fun σ2 H locs hV hw => ?_)
  refine x_aload_n X dX7_image_25 rfl (lv_at hl 0 rfl) ?_
  refine x_iconst X dX7_image_26 ?_
  refine x_puti X hw lx0 cX7 3 (by decide) rfl n_P_image_1 n_P_image_7 tyX7 tyX7_ok nmX7 rfl rfl rfl dX7_image_27 (fun H locs σ3 hs hw => ?_)
  replace hV := hV σ3 hs
  refine x_aload_n X dX7_image_30 rfl (lv_at hl 0 rfl) ?_
  refine x_getr X hw lx0 cX7 1 (by decide) rfl n_P_image_1 n_P_image_0 dX7_image_31 ?_
  refine x_geti X hw lx7 cX2 6 (by decide) rfl n_P_image_9 n_P_image_8 dX7_image_34 ?_
  exact hret (σ3 7 6) σ3 H locs ls 37 hV hw dX7_image_37

theorem n_P_restore_0 : Cond.fieldLink RX7 26 "LacePillow" "imaged" "Z" ∈ wsX7_restore := by decide +kernel
theorem n_P_restore_1 : ∀ w ∈ wsX70, w ∈ wsX7_restore := by decide +kernel
theorem n_P_restore_2 : Cond.fieldLink RX7 12 "LacePillow" "plan" "LLacePillow$Plan;" ∈ wsX7_restore := by decide +kernel
theorem n_P_restore_3 : Cond.fieldLink RX7 16 "LacePillow" "kept" "LLacePillow$Plan;" ∈ wsX7_restore := by decide +kernel
theorem n_P_restore_4 : Cond.fieldLink RX7 169 "LacePillow$Plan" "worked" "I" ∈ wsX7_restore := by decide +kernel
theorem n_P_restore_5 : ∀ w ∈ wsX20, w ∈ wsX7_restore := by decide +kernel
set_option maxHeartbeats 4000000 in
set_option maxRecDepth 100000 in
theorem c_P_restore (l : Launch) (G : GT) (ad : Nat → Nat) (hI : Inj LX ad) (σ : St) {Q : Int → St → Prop} (hV : V_P_restore σ Q) : Met l yX7_restore wsX7_restore (rmx 5 127) (Pq vwCl G LX ad σ [.ref (ad 0)]) (Qi vwCl G LX ad Q) 0 0 (Ax LX ad) := by
  unfold V_P_restore at hV
  refine x_meti (own := RX7) (by decide) rfl rfl (Nat.le_of_ble_eq_true rfl) hI ?_
  intro p e s m args below meth c R QQ X hR hret ls hl hw
  replace hl : lv_has ls 1 [(0, .ref (ad 0))] := hl
  obtain ⟨H, hH⟩ : ∃ z, z = s.heap := ⟨_, rfl⟩
  obtain ⟨locs, hlo⟩ : ∃ z : List Loc, z = [] := ⟨_, rfl⟩
  rw [← hH, ← hlo]
  replace hw : Wx vwCl G LX ad s H locs σ := by rw [hH, hlo]; exact hw
  clear hH hlo
  refine x_aload_n X dX7_restore_0 rfl (lv_at hl 0 rfl) ?_
  refine x_geti X hw lx0 cX7 3 (by decide) rfl n_P_restore_1 n_P_restore_0 dX7_restore_1 ?_
  refine x_if_ne X rfl 13 dX7_restore_4 (by decide) (fun hc => ?_) (fun hc => ?_)
  · replace hV := hV.1 hc
    refine x_aload_n X dX7_restore_13 rfl (lv_at hl 0 rfl) ?_
    refine x_getr X hw lx0 cX7 0 (by decide) rfl n_P_restore_1 n_P_restore_2 dX7_restore_14 ?_
    refine x_aload_n X dX7_restore_17 rfl (lv_at hl 0 rfl) ?_
    refine x_getr X hw lx0 cX7 1 (by decide) rfl n_P_restore_1 n_P_restore_3 dX7_restore_18 ?_
    refine x_cvv X hw [.ref (ad 7)] [] (c_Plan_copyFrom l G ad hI 1 7 isPlan1 isPlan7 σ hV) (cwV 1 X.2.2.2.2 gX7_restore_X2_copyFrom rfl rfl rfl hd_Plan_copyFrom ⟨x_fr hR.1 rfl, x_fr hR.2 rfl⟩) lx1 cX2 rfl hl.1 rfl (Nat.le_of_ble_eq_true rfl) dX7_restore_21 ⟨Nat.zero_le _, Nat.zero_le _⟩ (fun σ1 H locs hV hw => ?_)
    refine x_aload_n X dX7_restore_24 rfl (lv_at hl 0 rfl) ?_
    refine x_cvv X hw [] [] (c_P_regard l G ad hI σ1 hV) (cwV 0 X.2.2.2.2 gX7_restore_X7_regard rfl rfl rfl hd_P_regard ⟨x_fr hR.1 rfl, x_fr hR.2 rfl⟩) lx0 cX7 rfl hl.1 rfl (Nat.le_of_ble_eq_true rfl) dX7_restore_25 ⟨Nat.zero_le _, Nat.zero_le _⟩ (fun σ2 H locs hV hw => ?_)
    refine x_aload_n X dX7_restore_28 rfl (lv_at hl 0 rfl) ?_
    refine x_cvv X hw [] [] (c_P_replay l G ad hI σ2 hV) (cwV 0 X.2.2.2.2 gX7_restore_X7_replay rfl rfl rfl hd_P_replay ⟨x_fr hR.1 rfl, x_fr hR.2 rfl⟩) lx0 cX7 rfl hl.1 rfl (Nat.le_of_ble_eq_true rfl) dX7_restore_29 ⟨Nat.zero_le _, Nat.zero_le _⟩ (fun σ3 H locs hV hw => ?_)
    refine x_aload_n X dX7_restore_32 rfl (lv_at hl 0 rfl) ?_
    refine x_getr X hw lx0 cX7 0 (by decide) rfl n_P_restore_1 n_P_restore_2 dX7_restore_33 ?_
    refine x_geti X hw lx1 cX2 6 (by decide) rfl n_P_restore_5 n_P_restore_4 dX7_restore_36 ?_
    exact hret (σ3 1 6) σ3 H locs ls 39 hV hw dX7_restore_39
  · replace hV := hV.2 hc
    refine x_aload_n X dX7_restore_7 rfl (lv_at hl 0 rfl) ?_
    refine x_iconst X dX7_restore_8 ?_
    refine x_cvi X hw [iV 2] [] (c_P_fail l G ad hI σ 2 hV) (cwV 1 X.2.2.2.2 gX7_restore_X7_fail rfl rfl rfl hd_P_fail ⟨x_fr hR.1 rfl, x_fr hR.2 rfl⟩) lx0 cX7 rfl hl.1 rfl (Nat.le_of_ble_eq_true rfl) dX7_restore_9 ⟨Nat.zero_le _, Nat.zero_le _⟩ (fun r5 σ4 H locs hV hw => ?_)
    exact hret r5 σ4 H locs ls 12 hV hw dX7_restore_12

theorem n_P_alike_0 : Cond.fieldLink RX7 26 "LacePillow" "imaged" "Z" ∈ wsX7_alike := by decide +kernel
theorem n_P_alike_1 : ∀ w ∈ wsX70, w ∈ wsX7_alike := by decide +kernel
theorem n_P_alike_2 : Cond.fieldLink RX7 47 "LacePillow" "done" "LLacePillow$Weave;" ∈ wsX7_alike := by decide +kernel
theorem n_P_alike_3 : Cond.fieldLink RX7 142 "LacePillow$Weave" "heap" "LLacePillow$Heap;" ∈ wsX7_alike := by decide +kernel
theorem n_P_alike_4 : ∀ w ∈ wsX60, w ∈ wsX7_alike := by decide +kernel
theorem n_P_alike_5 : Cond.fieldLink RX7 22 "LacePillow" "keptHeap" "LLacePillow$Heap;" ∈ wsX7_alike := by decide +kernel
set_option maxHeartbeats 4000000 in
set_option maxRecDepth 100000 in
theorem c_P_alike (l : Launch) (G : GT) (ad : Nat → Nat) (hI : Inj LX ad) (σ : St) {Q : Int → St → Prop} (hV : V_P_alike σ Q) : Met l yX7_alike wsX7_alike (rmx 1 22) (Pq vwCl G LX ad σ [.ref (ad 0)]) (Qi vwCl G LX ad Q) 0 0 (Ax LX ad) := by
  unfold V_P_alike at hV
  refine x_meti (own := RX7) (by decide) rfl rfl (Nat.le_of_ble_eq_true rfl) hI ?_
  intro p e s m args below meth c R QQ X hR hret ls hl hw
  replace hl : lv_has ls 1 [(0, .ref (ad 0))] := hl
  obtain ⟨H, hH⟩ : ∃ z, z = s.heap := ⟨_, rfl⟩
  obtain ⟨locs, hlo⟩ : ∃ z : List Loc, z = [] := ⟨_, rfl⟩
  rw [← hH, ← hlo]
  replace hw : Wx vwCl G LX ad s H locs σ := by rw [hH, hlo]; exact hw
  clear hH hlo
  refine x_aload_n X dX7_alike_0 rfl (lv_at hl 0 rfl) ?_
  refine x_geti X hw lx0 cX7 3 (by decide) rfl n_P_alike_1 n_P_alike_0 dX7_alike_1 ?_
  refine x_if_ne X rfl 13 dX7_alike_4 (by decide) (fun hc => ?_) (fun hc => ?_)
  · replace hV := hV.1 hc
    refine x_aload_n X dX7_alike_13 rfl (lv_at hl 0 rfl) ?_
    refine x_getr X hw lx0 cX7 6 (by decide) rfl n_P_alike_1 n_P_alike_2 dX7_alike_14 ?_
    refine x_getr X hw lx29 cX6 8 (by decide) rfl n_P_alike_4 n_P_alike_3 dX7_alike_17 ?_
    refine x_aload_n X dX7_alike_20 rfl (lv_at hl 0 rfl) ?_
    refine x_getr X hw lx0 cX7 2 (by decide) rfl n_P_alike_1 n_P_alike_5 dX7_alike_21 ?_
    refine x_cvz X hw [.ref (ad 13)] [] (c_Heap_isAs l G ad hI σ hV) (cwV 1 X.2.2.2.2 gX7_alike_X1_isAs rfl rfl rfl hd_Heap_isAs ⟨x_fr hR.1 rfl, x_fr hR.2 rfl⟩) lx38 cX1 rfl hl.1 rfl (Nat.le_of_ble_eq_true rfl) dX7_alike_24 ⟨Nat.zero_le _, Nat.zero_le _⟩ (fun r2 σ1 H locs hr2 hV hw => ?_)
    refine x_if_eq X rfl 34 dX7_alike_27 (by decide) (fun hc => ?_) (fun hc => ?_)
    · replace hV := hV.1 hc
      refine x_iconst X dX7_alike_34 ?_
      exact hret 0 σ1 H locs ls 35 hV hw dX7_alike_35
    · replace hV := hV.2 hc
      refine x_iconst X dX7_alike_30 ?_
      refine x_goto X 35 dX7_alike_31 (by decide) ?_
      exact hret 1 σ1 H locs ls 35 hV hw dX7_alike_35
  · replace hV := hV.2 hc
    refine x_aload_n X dX7_alike_7 rfl (lv_at hl 0 rfl) ?_
    refine x_iconst X dX7_alike_8 ?_
    refine x_cvi X hw [iV 2] [] (c_P_fail l G ad hI σ 2 hV) (cwV 1 X.2.2.2.2 gX7_alike_X7_fail rfl rfl rfl hd_P_fail ⟨x_fr hR.1 rfl, x_fr hR.2 rfl⟩) lx0 cX7 rfl hl.1 rfl (Nat.le_of_ble_eq_true rfl) dX7_alike_9 ⟨Nat.zero_le _, Nat.zero_le _⟩ (fun r4 σ3 H locs hV hw => ?_)
    exact hret r4 σ3 H locs ls 12 hV hw dX7_alike_12

set_option maxHeartbeats 4000000 in
set_option maxRecDepth 100000 in
theorem c_P_sumOf (l : Launch) (G : GT) (ad : Nat → Nat) (hI : Inj LX ad) (a : Nat) (ha : LX[a]? = some (.inl (false, 16))) (σ : St) (a1 : Int) {Q : Int → St → Prop} (hV : V_P_sumOf a σ a1 Q) : Met l yX7_sumOf wsX7_sumOf (rmx 0 0) (Pq vwCl G LX ad σ [.ref (ad a), iV a1]) (Qi vwCl G LX ad Q) 0 0 (Ax LX ad) := by
  unfold V_P_sumOf at hV
  refine x_meti (own := RX7) (by decide) rfl rfl (Nat.le_of_ble_eq_true rfl) hI ?_
  intro p e s m args below meth c R QQ X hR hret ls hl hw
  replace hl : lv_has ls 4 [(0, .ref (ad a)), (1, iV a1)] := hl
  obtain ⟨H, hH⟩ : ∃ z, z = s.heap := ⟨_, rfl⟩
  obtain ⟨locs, hlo⟩ : ∃ z : List Loc, z = [] := ⟨_, rfl⟩
  rw [← hH, ← hlo]
  replace hw : Wx vwCl G LX ad s H locs σ := by rw [hH, hlo]; exact hw
  clear hH hlo
  refine x_iconst X dX7_sumOf_0 ?_
  refine x_istore_n X [(2, iV 0), (0, .ref (ad a)), (1, iV a1)] dX7_sumOf_1 rfl hl (by decide) rfl (fun ls hl => ?_)
  refine x_iconst X dX7_sumOf_2 ?_
  refine x_istore_n X [(3, iV 0), (2, iV 0), (0, .ref (ad a)), (1, iV a1)] dX7_sumOf_3 rfl hl (by decide) rfl (fun ls hl => ?_)
  refine WL2.use (Gl := fun x3_1 x2_2 σ3 => ∀ (H : Heap) (locs : List Loc) (ls : Array Slot), Wx vwCl G LX ad s H locs σ3 → lv_has ls 4 [(3, iV x3_1), (2, iV x2_2), (0, .ref (ad a)), (1, iV a1)] → W p l e R s m args below meth c H locs 0 0 QQ (F0 m 4 ls [])) ?_ hV H locs ls hw hl
  clear hV hw hl H locs ls
  intro bk4 x3_1 x2_2 σ3 hbk4 hV H locs ls hw hl
  refine x_iload_n X dX7_sumOf_4 rfl (lv_at hl 0 rfl) ?_
  refine x_iload_n X dX7_sumOf_5 rfl (lv_at hl 3 rfl) ?_
  refine x_icmp_ge X rfl rfl 27 dX7_sumOf_6 (by decide) (fun hc => ?_) (fun hc => ?_)
  · replace hV := hV.1 hc
    refine x_iload_n X dX7_sumOf_27 rfl (lv_at hl 1 rfl) ?_
    exact hret x2_2 σ3 H locs ls 28 hV hw dX7_sumOf_28
  · replace hV := hV.2 hc
    refine x_iload_n X dX7_sumOf_9 rfl (lv_at hl 0 rfl) ?_
    refine x_aload_n X dX7_sumOf_10 rfl (lv_at hl 2 rfl) ?_
    refine x_alen X hw ha rfl dX7_sumOf_11 ?_
    refine x_icmp_ge X rfl k32_16 27 dX7_sumOf_12 (by decide) (fun hc => ?_) (fun hc => ?_)
    · replace hV := hV.1 hc
      refine x_iload_n X dX7_sumOf_27 rfl (lv_at hl 1 rfl) ?_
      exact hret x2_2 σ3 H locs ls 28 hV hw dX7_sumOf_28
    · replace hV := hV.2 hc
      refine x_iload_n X dX7_sumOf_15 rfl (lv_at hl 1 rfl) ?_
      refine x_aload_n X dX7_sumOf_16 rfl (lv_at hl 2 rfl) ?_
      refine x_iload_n X dX7_sumOf_17 rfl (lv_at hl 0 rfl) ?_
      obtain ⟨hi, hV⟩ := hV
      refine x_iald X hw ha rfl rfl hi dX7_sumOf_18 ?_
      refine x_iadd X dX7_sumOf_19 ?_
      refine x_bi (fun x2_5 ex2_5 => ?_)
      replace hV := hV x2_5 ex2_5
      clear ex2_5
      refine x_istore_n X [(2, iV x2_5), (3, iV x3_1), (0, .ref (ad a)), (1, iV a1)] dX7_sumOf_20 rfl hl (by decide) rfl (fun ls hl => ?_)
      refine x_iinc X (k := 1) (x3_1 + 1) [(3, iV (x3_1 + 1)), (2, iV x2_5), (0, .ref (ad a)), (1, iV a1)] dX7_sumOf_21 hl rfl rfl (by decide) rfl (fun ls hl => ?_)
      refine x_goto X 4 dX7_sumOf_24 (by decide) ?_
      exact hbk4 (x3_1 + 1) x2_5 σ3 hV H locs ls hw hl

theorem n_P_count_0 : Cond.fieldLink RX7 12 "LacePillow" "plan" "LLacePillow$Plan;" ∈ wsX7_count := by decide +kernel
theorem n_P_count_1 : ∀ w ∈ wsX70, w ∈ wsX7_count := by decide +kernel
theorem n_P_count_2 : Cond.fieldLink RX7 84 "LacePillow$Plan" "pairs" "I" ∈ wsX7_count := by decide +kernel
theorem n_P_count_3 : ∀ w ∈ wsX20, w ∈ wsX7_count := by decide +kernel
theorem n_P_count_4 : Cond.fieldLink RX7 65 "LacePillow" "tape" "LLacePillow$Tape;" ∈ wsX7_count := by decide +kernel
theorem n_P_count_5 : Cond.fieldLink RX7 106 "LacePillow$Tape" "size" "I" ∈ wsX7_count := by decide +kernel
theorem n_P_count_6 : ∀ w ∈ wsX40, w ∈ wsX7_count := by decide +kernel
theorem n_P_count_7 : Cond.fieldLink RX7 263 "LacePillow$Plan" "wound" "[I" ∈ wsX7_count := by decide +kernel
theorem n_P_count_8 : Cond.fieldLink RX7 47 "LacePillow" "done" "LLacePillow$Weave;" ∈ wsX7_count := by decide +kernel
theorem n_P_count_9 : Cond.fieldLink RX7 260 "LacePillow$Weave" "used" "[I" ∈ wsX7_count := by decide +kernel
theorem n_P_count_10 : ∀ w ∈ wsX60, w ∈ wsX7_count := by decide +kernel
theorem n_P_count_11 : Cond.fieldLink RX7 139 "LacePillow$Weave" "crossings" "I" ∈ wsX7_count := by decide +kernel
set_option maxHeartbeats 4000000 in
set_option maxRecDepth 100000 in
theorem c_P_count (l : Launch) (G : GT) (ad : Nat → Nat) (hI : Inj LX ad) (σ : St) (a1 : Int) {Q : Int → St → Prop} (hV : V_P_count σ a1 Q) : Met l yX7_count wsX7_count (rmx 1 23) (Pq vwCl G LX ad σ [.ref (ad 0), iV a1]) (Qi vwCl G LX ad Q) 0 0 (Ax LX ad) := by
  unfold V_P_count at hV
  refine x_meti (own := RX7) (by decide) rfl rfl (Nat.le_of_ble_eq_true rfl) hI ?_
  intro p e s m args below meth c R QQ X hR hret ls hl hw
  replace hl : lv_has ls 3 [(0, .ref (ad 0)), (1, iV a1)] := hl
  obtain ⟨H, hH⟩ : ∃ z, z = s.heap := ⟨_, rfl⟩
  obtain ⟨locs, hlo⟩ : ∃ z : List Loc, z = [] := ⟨_, rfl⟩
  rw [← hH, ← hlo]
  replace hw : Wx vwCl G LX ad s H locs σ := by rw [hH, hlo]; exact hw
  clear hH hlo
  refine x_iconst X dX7_count_0 ?_
  refine x_aload_n X dX7_count_1 rfl (lv_at hl 0 rfl) ?_
  refine x_getr X hw lx0 cX7 0 (by decide) rfl n_P_count_1 n_P_count_0 dX7_count_2 ?_
  refine x_geti X hw lx1 cX2 0 (by decide) rfl n_P_count_3 n_P_count_2 dX7_count_5 ?_
  refine x_imul X dX7_count_8 ?_
  refine x_bi (fun x2_1 ex2_1 => ?_)
  replace hV := hV x2_1 ex2_1
  clear ex2_1
  refine x_istore_n X [(2, iV x2_1), (0, .ref (ad 0)), (1, iV a1)] dX7_count_9 rfl hl (by decide) rfl (fun ls hl => ?_)
  refine x_iload_n X dX7_count_10 rfl (lv_at hl 2 rfl) ?_
  by_cases hc0 : i32 a1 = 0
  · replace hV := hV.1 hc0
    refine x_tabIn X 0 48 dX7_count_11 (hc0) (by decide) (by decide) rfl (by decide) ?_
    refine x_aload_n X dX7_count_48 rfl (lv_at hl 1 rfl) ?_
    refine x_getr X hw lx0 cX7 0 (by decide) rfl n_P_count_1 n_P_count_0 dX7_count_49 ?_
    refine x_geti X hw lx1 cX2 0 (by decide) rfl n_P_count_3 n_P_count_2 dX7_count_52 ?_
    exact hret (σ 1 0) σ H locs ls 55 hV hw dX7_count_55
  by_cases hc1 : i32 a1 = 1
  · replace hV := hV.2.1 hc1
    refine x_tabIn X 1 56 dX7_count_11 (hc1) (by decide) (by decide) rfl (by decide) ?_
    refine x_aload_n X dX7_count_56 rfl (lv_at hl 1 rfl) ?_
    refine x_getr X hw lx0 cX7 10 (by decide) rfl n_P_count_1 n_P_count_4 dX7_count_57 ?_
    refine x_geti X hw lx53 cX4 1 (by decide) rfl n_P_count_6 n_P_count_5 dX7_count_60 ?_
    exact hret (σ 53 1) σ H locs ls 63 hV hw dX7_count_63
  by_cases hc2 : i32 a1 = 2
  · replace hV := hV.2.2.1 hc2
    refine x_tabIn X 2 64 dX7_count_11 (hc2) (by decide) (by decide) rfl (by decide) ?_
    refine x_aload_n X dX7_count_64 rfl (lv_at hl 1 rfl) ?_
    refine x_getr X hw lx0 cX7 0 (by decide) rfl n_P_count_1 n_P_count_0 dX7_count_65 ?_
    refine x_getr X hw lx1 cX2 4 (by decide) rfl n_P_count_3 n_P_count_7 dX7_count_68 ?_
    refine x_iload_n X dX7_count_71 rfl (lv_at hl 0 rfl) ?_
    refine x_csi X hw [.ref (ad 5), iV x2_1] [] (c_P_sumOf l G ad hI 5 lx5 σ x2_1 hV) (va_cwS 2 X.2.2.2.2 gX7_count_X7_sumOf rfl rfl rfl hd_P_sumOf ⟨x_fr hR.1 rfl, x_fr hR.2 rfl⟩) rfl hl.1 rfl (Nat.le_of_ble_eq_true rfl) dX7_count_72 ⟨Nat.zero_le _, Nat.zero_le _⟩ (fun r3 σ2 H locs hV hw => ?_)
    refine x_aload_n X dX7_count_75 rfl (lv_at hl 1 rfl) ?_
    refine x_getr X hw lx0 cX7 6 (by decide) rfl n_P_count_1 n_P_count_8 dX7_count_76 ?_
    refine x_getr X hw lx29 cX6 2 (by decide) rfl n_P_count_10 n_P_count_9 dX7_count_79 ?_
    refine x_iload_n X dX7_count_82 rfl (lv_at hl 0 rfl) ?_
    refine x_csi X hw [.ref (ad 32), iV x2_1] [iV r3] (c_P_sumOf l G ad hI 32 lx32 σ2 x2_1 hV) (va_cwS 2 X.2.2.2.2 gX7_count_X7_sumOf rfl rfl rfl hd_P_sumOf ⟨x_fr hR.1 rfl, x_fr hR.2 rfl⟩) rfl hl.1 rfl (Nat.le_of_ble_eq_true rfl) dX7_count_83 ⟨Nat.zero_le _, Nat.zero_le _⟩ (fun r5 σ4 H locs hV hw => ?_)
    refine x_isub X dX7_count_86 ?_
    exact hret (r3 - r5) σ4 H locs ls 87 hV hw dX7_count_87
  by_cases hc3 : i32 a1 = 3
  · replace hV := hV.2.2.2.1 hc3
    refine x_tabIn X 3 88 dX7_count_11 (hc3) (by decide) (by decide) rfl (by decide) ?_
    refine x_aload_n X dX7_count_88 rfl (lv_at hl 1 rfl) ?_
    refine x_getr X hw lx0 cX7 0 (by decide) rfl n_P_count_1 n_P_count_0 dX7_count_89 ?_
    refine x_getr X hw lx1 cX2 4 (by decide) rfl n_P_count_3 n_P_count_7 dX7_count_92 ?_
    refine x_iload_n X dX7_count_95 rfl (lv_at hl 0 rfl) ?_
    refine x_csi X hw [.ref (ad 5), iV x2_1] [] (c_P_sumOf l G ad hI 5 lx5 σ x2_1 hV) (va_cwS 2 X.2.2.2.2 gX7_count_X7_sumOf rfl rfl rfl hd_P_sumOf ⟨x_fr hR.1 rfl, x_fr hR.2 rfl⟩) rfl hl.1 rfl (Nat.le_of_ble_eq_true rfl) dX7_count_96 ⟨Nat.zero_le _, Nat.zero_le _⟩ (fun r7 σ6 H locs hV hw => ?_)
    exact hret r7 σ6 H locs ls 99 hV hw dX7_count_99
  by_cases hc4 : i32 a1 = 4
  · replace hV := hV.2.2.2.2.1 hc4
    refine x_tabIn X 4 100 dX7_count_11 (hc4) (by decide) (by decide) rfl (by decide) ?_
    refine x_aload_n X dX7_count_100 rfl (lv_at hl 1 rfl) ?_
    refine x_getr X hw lx0 cX7 6 (by decide) rfl n_P_count_1 n_P_count_8 dX7_count_101 ?_
    refine x_geti X hw lx29 cX6 9 (by decide) rfl n_P_count_10 n_P_count_11 dX7_count_104 ?_
    exact hret (σ 29 9) σ H locs ls 107 hV hw dX7_count_107
  by_cases hc5 : i32 a1 = 5
  · replace hV := hV.2.2.2.2.2.1 hc5
    refine x_tabIn X 5 108 dX7_count_11 (hc5) (by decide) (by decide) rfl (by decide) ?_
    refine x_aload_n X dX7_count_108 rfl (lv_at hl 1 rfl) ?_
    refine x_getr X hw lx0 cX7 6 (by decide) rfl n_P_count_1 n_P_count_8 dX7_count_109 ?_
    refine x_iload_n X dX7_count_112 rfl (lv_at hl 0 rfl) ?_
    refine x_cvi X hw [iV x2_1] [] (c_Weave_countAtHome l G ad hI 29 isWeave29 σ x2_1 hV) (cwV 1 X.2.2.2.2 gX7_count_X6_countAtHome rfl rfl rfl hd_Weave_countAtHome ⟨x_fr hR.1 rfl, x_fr hR.2 rfl⟩) lx29 cX6 rfl hl.1 rfl (Nat.le_of_ble_eq_true rfl) dX7_count_113 ⟨Nat.zero_le _, Nat.zero_le _⟩ (fun r9 σ8 H locs hV hw => ?_)
    exact hret r9 σ8 H locs ls 116 hV hw dX7_count_116
  have hc : i32 a1 < 0 ∨ 5 < i32 a1 := by omega
  replace hV := hV.2.2.2.2.2.2 hc
  refine x_tabOut X 117 dX7_count_11 hc (by decide) ?_
  refine x_aload_n X dX7_count_117 rfl (lv_at hl 1 rfl) ?_
  refine x_iconst X dX7_count_118 ?_
  refine x_cvi X hw [iV 1] [] (c_P_fail l G ad hI σ 1 hV) (cwV 1 X.2.2.2.2 gX7_count_X7_fail rfl rfl rfl hd_P_fail ⟨x_fr hR.1 rfl, x_fr hR.2 rfl⟩) lx0 cX7 rfl hl.1 rfl (Nat.le_of_ble_eq_true rfl) dX7_count_119 ⟨Nat.zero_le _, Nat.zero_le _⟩ (fun r11 σ10 H locs hV hw => ?_)
  exact hret r11 σ10 H locs ls 122 hV hw dX7_count_122

theorem n_P_told_0 : Cond.fieldLink RX7 75 "LacePillow" "errors" "[I" ∈ wsX7_told := by decide +kernel
theorem n_P_told_1 : ∀ w ∈ wsX70, w ∈ wsX7_told := by decide +kernel
set_option maxHeartbeats 4000000 in
set_option maxRecDepth 100000 in
theorem c_P_told (l : Launch) (G : GT) (ad : Nat → Nat) (hI : Inj LX ad) (σ : St) (a1 : Int) {Q : Int → St → Prop} (hV : V_P_told σ a1 Q) : Met l yX7_told wsX7_told (rmx 1 21) (Pq vwCl G LX ad σ [.ref (ad 0), iV a1]) (Qi vwCl G LX ad Q) 0 0 (Ax LX ad) := by
  unfold V_P_told at hV
  refine x_meti (own := RX7) (by decide) rfl rfl (Nat.le_of_ble_eq_true rfl) hI ?_
  intro p e s m args below meth c R QQ X hR hret ls hl hw
  replace hl : lv_has ls 2 [(0, .ref (ad 0)), (1, iV a1)] := hl
  obtain ⟨H, hH⟩ : ∃ z, z = s.heap := ⟨_, rfl⟩
  obtain ⟨locs, hlo⟩ : ∃ z : List Loc, z = [] := ⟨_, rfl⟩
  rw [← hH, ← hlo]
  replace hw : Wx vwCl G LX ad s H locs σ := by rw [hH, hlo]; exact hw
  clear hH hlo
  refine x_iload_n X dX7_told_0 rfl (lv_at hl 1 rfl) ?_
  refine x_iconst X dX7_told_1 ?_
  refine x_icmp_lt X rfl k32_1 11 dX7_told_2 (by decide) (fun hc => ?_) (fun hc => ?_)
  · replace hV := hV.1 hc
    refine x_aload_n X dX7_told_11 rfl (lv_at hl 0 rfl) ?_
    refine x_iconst X dX7_told_12 ?_
    refine x_cvi X hw [iV 1] [] (c_P_fail l G ad hI σ 1 hV) (cwV 1 X.2.2.2.2 gX7_told_X7_fail rfl rfl rfl hd_P_fail ⟨x_fr hR.1 rfl, x_fr hR.2 rfl⟩) lx0 cX7 rfl hl.1 rfl (Nat.le_of_ble_eq_true rfl) dX7_told_13 ⟨Nat.zero_le _, Nat.zero_le _⟩ (fun r2 σ1 H locs hV hw => ?_)
    exact hret r2 σ1 H locs ls 16 hV hw dX7_told_16
  · replace hV := hV.2 hc
    refine x_iload_n X dX7_told_5 rfl (lv_at hl 1 rfl) ?_
    refine x_bipush X dX7_told_6 (by decide) ?_
    refine x_icmp_le X rfl k32_7 17 dX7_told_8 (by decide) (fun hc => ?_) (fun hc => ?_)
    · replace hV := hV.1 hc
      refine x_aload_n X dX7_told_17 rfl (lv_at hl 0 rfl) ?_
      refine x_getr X hw lx0 cX7 12 (by decide) rfl n_P_told_1 n_P_told_0 dX7_told_18 ?_
      refine x_iload_n X dX7_told_21 rfl (lv_at hl 1 rfl) ?_
      obtain ⟨hi, hV⟩ := hV
      refine x_iald X hw lx56 rfl rfl hi dX7_told_22 ?_
      exact hret (σ 56 (i32 a1)) σ H locs ls 23 hV hw dX7_told_23
    · replace hV := hV.2 hc
      refine x_aload_n X dX7_told_11 rfl (lv_at hl 0 rfl) ?_
      refine x_iconst X dX7_told_12 ?_
      refine x_cvi X hw [iV 1] [] (c_P_fail l G ad hI σ 1 hV) (cwV 1 X.2.2.2.2 gX7_told_X7_fail rfl rfl rfl hd_P_fail ⟨x_fr hR.1 rfl, x_fr hR.2 rfl⟩) lx0 cX7 rfl hl.1 rfl (Nat.le_of_ble_eq_true rfl) dX7_told_13 ⟨Nat.zero_le _, Nat.zero_le _⟩ (fun r4 σ3 H locs hV hw => ?_)
      exact hret r4 σ3 H locs ls 16 hV hw dX7_told_16

set_option maxHeartbeats 4000000 in
set_option maxRecDepth 100000 in
theorem c_M_in (l : Launch) (G : GT) (ad : Nat → Nat) (hI : Inj LM ad) (σ : St) (a1 : Int) (a2 : Int) (a3 : Int) {Q : Int → St → Prop} (hV : V_M_in σ a1 a2 a3 Q) : Met l yX8_in wsX8_in (rmx 0 0) (Pq vwCl G LM ad σ [lV a1, lV a2, lV a3]) (Qz vwCl G LM ad Q) 0 0 (Ax LM ad) := by
  unfold V_M_in at hV
  refine x_metz (own := RX8) (by decide) rfl rfl (Nat.le_of_ble_eq_true rfl) hI ?_
  intro p e s m args below meth c R QQ X hR hret ls hl hw
  replace hl : lv_has ls 6 [(0, lV a1), (2, lV a2), (4, lV a3)] := hl
  obtain ⟨H, hH⟩ : ∃ z, z = s.heap := ⟨_, rfl⟩
  obtain ⟨locs, hlo⟩ : ∃ z : List Loc, z = [] := ⟨_, rfl⟩
  rw [← hH, ← hlo]
  replace hw : Wx vwCl G LM ad s H locs σ := by rw [hH, hlo]; exact hw
  clear hH hlo
  refine x_lload_n X dX8_in_0 rfl (lv_at hl 0 rfl) ?_
  refine x_lload_n X dX8_in_1 rfl (lv_at hl 1 rfl) ?_
  refine x_lcmp_lt X rfl rfl 17 dX8_in_2 dX8_in_3 (by decide) (fun hc => ?_) (fun hc => ?_)
  · replace hV := hV.1 hc
    refine x_iconst X dX8_in_17 ?_
    exact hret 0 σ H locs ls 18 (by decide) hV hw dX8_in_18
  · replace hV := hV.2 hc
    refine x_lload_n X dX8_in_6 rfl (lv_at hl 0 rfl) ?_
    refine x_lload X dX8_in_7 (lv_at hl 2 rfl) ?_
    refine x_lcmp_gt X rfl rfl 17 dX8_in_9 dX8_in_10 (by decide) (fun hc => ?_) (fun hc => ?_)
    · replace hV := hV.1 hc
      refine x_iconst X dX8_in_17 ?_
      exact hret 0 σ H locs ls 18 (by decide) hV hw dX8_in_18
    · replace hV := hV.2 hc
      refine x_iconst X dX8_in_13 ?_
      refine x_goto X 18 dX8_in_14 (by decide) ?_
      exact hret 1 σ H locs ls 18 (by decide) hV hw dX8_in_18

theorem n_M_errs_0 : Cond.fieldLink RX8 19 "LacePillowModel" "met" "[I" ∈ wsX8_errs := by decide +kernel
theorem n_M_errs_1 : ∀ w ∈ wsX80, w ∈ wsX8_errs := by decide +kernel
theorem n_M_errs_2 : Cond.constant RX8 117 (-1000000000) ∈ wsX8_errs := by decide +kernel
set_option maxHeartbeats 4000000 in
set_option maxRecDepth 100000 in
theorem c_M_errs (l : Launch) (G : GT) (ad : Nat → Nat) (hI : Inj LM ad) (σ : St) (a1 : Int) {Q : Int → St → Prop} (hV : V_M_errs σ a1 Q) : Met l yX8_errs wsX8_errs (rmx 0 0) (Pq vwCl G LM ad σ [.ref (ad 0), iV a1]) (Qi vwCl G LM ad Q) 0 0 (Ax LM ad) := by
  unfold V_M_errs at hV
  refine x_meti (own := RX8) (by decide) rfl rfl (Nat.le_of_ble_eq_true rfl) hI ?_
  intro p e s m args below meth c R QQ X hR hret ls hl hw
  replace hl : lv_has ls 2 [(0, .ref (ad 0)), (1, iV a1)] := hl
  obtain ⟨H, hH⟩ : ∃ z, z = s.heap := ⟨_, rfl⟩
  obtain ⟨locs, hlo⟩ : ∃ z : List Loc, z = [] := ⟨_, rfl⟩
  rw [← hH, ← hlo]
  replace hw : Wx vwCl G LM ad s H locs σ := by rw [hH, hlo]; exact hw
  clear hH hlo
  refine x_aload_n X dX8_errs_0 rfl (lv_at hl 0 rfl) ?_
  refine x_getr X hw lm0 cX8 4 (by decide) rfl n_M_errs_1 n_M_errs_0 dX8_errs_1 ?_
  refine x_ldc X (-1000000000) n_M_errs_2 (by decide) dX8_errs_4 ?_
  refine x_iload_n X dX8_errs_6 rfl (lv_at hl 1 rfl) ?_
  refine x_isub X dX8_errs_7 ?_
  refine x_dup2 X dX8_errs_8 rfl rfl ?_
  obtain ⟨hi, hV⟩ := hV
  refine x_iald X hw lm4 rfl rfl hi dX8_errs_9 ?_
  refine x_iconst X dX8_errs_10 ?_
  refine x_iadd X dX8_errs_11 ?_
  obtain ⟨hi, hV⟩ := hV
  refine x_iast X hw lm4 rfl rfl hi dX8_errs_12 (fun H locs σ1 hs hw => ?_)
  replace hV := hV σ1 hs
  refine x_iload_n X dX8_errs_13 rfl (lv_at hl 1 rfl) ?_
  exact hret a1 σ1 H locs ls 14 hV hw dX8_errs_14

theorem n_M_errsLong_0 : Cond.fieldLink RX8 19 "LacePillowModel" "met" "[I" ∈ wsX8_errsLong := by decide +kernel
theorem n_M_errsLong_1 : ∀ w ∈ wsX80, w ∈ wsX8_errsLong := by decide +kernel
theorem n_M_errsLong_2 : Cond.constant RX8 117 (-1000000000) ∈ wsX8_errsLong := by decide +kernel
theorem n_M_errsLong_3 : Cond.constantLong RX8 118 (-9000000000000000000) ∈ wsX8_errsLong := by decide +kernel
set_option maxHeartbeats 4000000 in
set_option maxRecDepth 100000 in
theorem c_M_errsLong (l : Launch) (G : GT) (ad : Nat → Nat) (hI : Inj LM ad) (σ : St) (a1 : Int) {Q : Int → St → Prop} (hV : V_M_errsLong σ a1 Q) : Met l yX8_errsLong wsX8_errsLong (rmx 0 0) (Pq vwCl G LM ad σ [.ref (ad 0), iV a1]) (Ql vwCl G LM ad Q) 0 0 (Ax LM ad) := by
  unfold V_M_errsLong at hV
  refine x_metl (own := RX8) (by decide) rfl rfl (Nat.le_of_ble_eq_true rfl) hI ?_
  intro p e s m args below meth c R QQ X hR hret ls hl hw
  replace hl : lv_has ls 2 [(0, .ref (ad 0)), (1, iV a1)] := hl
  obtain ⟨H, hH⟩ : ∃ z, z = s.heap := ⟨_, rfl⟩
  obtain ⟨locs, hlo⟩ : ∃ z : List Loc, z = [] := ⟨_, rfl⟩
  rw [← hH, ← hlo]
  replace hw : Wx vwCl G LM ad s H locs σ := by rw [hH, hlo]; exact hw
  clear hH hlo
  refine x_aload_n X dX8_errsLong_0 rfl (lv_at hl 0 rfl) ?_
  refine x_getr X hw lm0 cX8 4 (by decide) rfl n_M_errsLong_1 n_M_errsLong_0 dX8_errsLong_1 ?_
  refine x_ldc X (-1000000000) n_M_errsLong_2 (by decide) dX8_errsLong_4 ?_
  refine x_iload_n X dX8_errsLong_6 rfl (lv_at hl 1 rfl) ?_
  refine x_isub X dX8_errsLong_7 ?_
  refine x_dup2 X dX8_errsLong_8 rfl rfl ?_
  obtain ⟨hi, hV⟩ := hV
  refine x_iald X hw lm4 rfl rfl hi dX8_errsLong_9 ?_
  refine x_iconst X dX8_errsLong_10 ?_
  refine x_iadd X dX8_errsLong_11 ?_
  obtain ⟨hi, hV⟩ := hV
  refine x_iast X hw lm4 rfl rfl hi dX8_errsLong_12 (fun H locs σ1 hs hw => ?_)
  replace hV := hV σ1 hs
  refine x_ldc2 X (-9000000000000000000) n_M_errsLong_3 (by decide) dX8_errsLong_13 ?_
  refine x_iload_n X dX8_errsLong_16 rfl (lv_at hl 1 rfl) ?_
  refine x_ldc X (-1000000000) n_M_errsLong_2 (by decide) dX8_errsLong_17 ?_
  refine x_isub X dX8_errsLong_19 ?_
  refine x_i2l X dX8_errsLong_20 ?_
  refine x_ladd X dX8_errsLong_21 ?_
  exact hret ((-9000000000000000000) + (i32 (a1 - (-1000000000)))) σ1 H locs ls 22 hV hw dX8_errsLong_22

set_option maxHeartbeats 4000000 in
set_option maxRecDepth 100000 in
theorem c_M_copy (l : Launch) (G : GT) (ad : Nat → Nat) (hI : Inj LM ad) (a : Nat) (b : Nat) (ha : LM[a]? = some (.inl (false, 204))) (hb : LM[b]? = some (.inl (false, 204))) (σ : St) {Q : St → Prop} (hV : V_M_copy a b σ Q) : Met l yX8_copy wsX8_copy (rmx 0 0) (Pq vwCl G LM ad σ [.ref (ad a), .ref (ad b)]) (Qv vwCl G LM ad Q) 0 0 (Ax LM ad) := by
  unfold V_M_copy at hV
  refine x_metv (own := RX8) (by decide) rfl rfl (Nat.le_of_ble_eq_true rfl) hI ?_
  intro p e s m args below meth c R QQ X hR hret ls hl hw
  replace hl : lv_has ls 3 [(0, .ref (ad a)), (1, .ref (ad b))] := hl
  obtain ⟨H, hH⟩ : ∃ z, z = s.heap := ⟨_, rfl⟩
  obtain ⟨locs, hlo⟩ : ∃ z : List Loc, z = [] := ⟨_, rfl⟩
  rw [← hH, ← hlo]
  replace hw : Wx vwCl G LM ad s H locs σ := by rw [hH, hlo]; exact hw
  clear hH hlo
  refine x_iconst X dX8_copy_0 ?_
  refine x_istore_n X [(2, iV 0), (0, .ref (ad a)), (1, .ref (ad b))] dX8_copy_1 rfl hl (by decide) rfl (fun ls hl => ?_)
  refine WL1.use (Gl := fun x2_1 σ2 => ∀ (H : Heap) (locs : List Loc) (ls : Array Slot), Wx vwCl G LM ad s H locs σ2 → lv_has ls 3 [(2, iV x2_1), (0, .ref (ad a)), (1, .ref (ad b))] → W p l e R s m args below meth c H locs 0 0 QQ (F0 m 2 ls [])) ?_ hV H locs ls hw hl
  clear hV hw hl H locs ls
  intro bk3 x2_1 σ2 hbk3 hV H locs ls hw hl
  refine x_iload_n X dX8_copy_2 rfl (lv_at hl 0 rfl) ?_
  refine x_sipush X dX8_copy_3 (by decide) ?_
  refine x_icmp_ge X rfl k32_204 21 dX8_copy_6 (by decide) (fun hc => ?_) (fun hc => ?_)
  · replace hV := hV.1 hc
    exact hret σ2 H locs ls 21 hV hw dX8_copy_21
  · replace hV := hV.2 hc
    refine x_aload_n X dX8_copy_9 rfl (lv_at hl 2 rfl) ?_
    refine x_iload_n X dX8_copy_10 rfl (lv_at hl 0 rfl) ?_
    refine x_aload_n X dX8_copy_11 rfl (lv_at hl 1 rfl) ?_
    refine x_iload_n X dX8_copy_12 rfl (lv_at hl 0 rfl) ?_
    obtain ⟨hi, hV⟩ := hV
    refine x_iald X hw ha rfl rfl hi dX8_copy_13 ?_
    obtain ⟨hi, hV⟩ := hV
    refine x_iast X hw hb rfl rfl hi dX8_copy_14 (fun H locs σ4 hs hw => ?_)
    replace hV := hV σ4 hs
    refine x_iinc X (k := 0) (x2_1 + 1) [(2, iV (x2_1 + 1)), (0, .ref (ad a)), (1, .ref (ad b))] dX8_copy_15 hl rfl rfl (by decide) rfl (fun ls hl => ?_)
    refine x_goto X 2 dX8_copy_18 (by decide) ?_
    exact hbk3 (x2_1 + 1) σ4 hV H locs ls hw hl

set_option maxHeartbeats 4000000 in
set_option maxRecDepth 100000 in
theorem c_M_bits (l : Launch) (G : GT) (ad : Nat → Nat) (hI : Inj LM ad) (σ : St) (a1 : Int) {Q : Int → St → Prop} (hV : V_M_bits σ a1 Q) : Met l yX8_bits wsX8_bits (rmx 0 0) (Pq vwCl G LM ad σ [lV a1]) (Qi vwCl G LM ad Q) 0 0 (Ax LM ad) := by
  unfold V_M_bits at hV
  refine x_meti (own := RX8) (by decide) rfl rfl (Nat.le_of_ble_eq_true rfl) hI ?_
  intro p e s m args below meth c R QQ X hR hret ls hl hw
  replace hl : lv_has ls 5 [(0, lV a1)] := hl
  obtain ⟨H, hH⟩ : ∃ z, z = s.heap := ⟨_, rfl⟩
  obtain ⟨locs, hlo⟩ : ∃ z : List Loc, z = [] := ⟨_, rfl⟩
  rw [← hH, ← hlo]
  replace hw : Wx vwCl G LM ad s H locs σ := by rw [hH, hlo]; exact hw
  clear hH hlo
  refine x_iconst X dX8_bits_0 ?_
  refine x_istore_n X [(2, iV 0), (0, lV a1)] dX8_bits_1 rfl hl (by decide) rfl (fun ls hl => ?_)
  refine x_lload_n X dX8_bits_2 rfl (lv_at hl 1 rfl) ?_
  refine x_lstore_n X [(3, lV a1), (2, iV 0), (0, lV a1)] dX8_bits_3 rfl hl (by decide) rfl (fun ls hl => ?_)
  refine WL2.use (Gl := fun x3_1 x2_2 σ3 => ∀ (H : Heap) (locs : List Loc) (ls : Array Slot), Wx vwCl G LM ad s H locs σ3 → lv_has ls 5 [(3, lV x3_1), (2, iV x2_2)] → W p l e R s m args below meth c H locs 0 0 QQ (F0 m 4 ls [])) ?_ hV H locs ls hw (lv_sub hl [0, 1] rfl)
  clear hV hw hl H locs ls
  intro bk4 x3_1 x2_2 σ3 hbk4 hV H locs ls hw hl
  refine x_lload_n X dX8_bits_4 rfl (lv_at hl 0 rfl) ?_
  refine x_lconst X 0 dX8_bits_5 rfl ?_
  refine x_lcmp_eq X rfl k64_0 22 dX8_bits_6 dX8_bits_7 (by decide) (fun hc => ?_) (fun hc => ?_)
  · replace hV := hV.1 hc
    refine x_iload_n X dX8_bits_22 rfl (lv_at hl 1 rfl) ?_
    exact hret x2_2 σ3 H locs ls 23 hV hw dX8_bits_23
  · replace hV := hV.2 hc
    refine x_iinc X (k := 1) (x2_2 + 1) [(2, iV (x2_2 + 1)), (3, lV x3_1)] dX8_bits_10 hl rfl rfl (by decide) rfl (fun ls hl => ?_)
    refine x_lload_n X dX8_bits_13 rfl (lv_at hl 1 rfl) ?_
    refine x_lload_n X dX8_bits_14 rfl (lv_at hl 1 rfl) ?_
    refine x_lconst X 1 dX8_bits_15 rfl ?_
    refine x_lsub X dX8_bits_16 ?_
    refine x_land X dX8_bits_17 ?_
    refine x_bl (fun x3_5 ex3_5 => ?_)
    replace hV := hV x3_5 ex3_5
    clear ex3_5
    refine x_lstore_n X [(3, lV x3_5), (2, iV (x2_2 + 1))] dX8_bits_18 rfl hl (by decide) rfl (fun ls hl => ?_)
    refine x_goto X 4 dX8_bits_19 (by decide) ?_
    exact hbk4 x3_5 (x2_2 + 1) σ3 hV H locs ls hw hl

theorem n_M_gaps_0 : Cond.fieldLink RX8 9 "LacePillowModel" "now" "[I" ∈ wsX8_gaps := by decide +kernel
theorem n_M_gaps_1 : ∀ w ∈ wsX80, w ∈ wsX8_gaps := by decide +kernel
set_option maxHeartbeats 4000000 in
set_option maxRecDepth 100000 in
theorem c_M_gaps (l : Launch) (G : GT) (ad : Nat → Nat) (hI : Inj LM ad) (σ : St) {Q : Int → St → Prop} (hV : V_M_gaps σ Q) : Met l yX8_gaps wsX8_gaps (rmx 0 0) (Pq vwCl G LM ad σ [.ref (ad 0)]) (Qi vwCl G LM ad Q) 0 0 (Ax LM ad) := by
  unfold V_M_gaps at hV
  refine x_meti (own := RX8) (by decide) rfl rfl (Nat.le_of_ble_eq_true rfl) hI ?_
  intro p e s m args below meth c R QQ X hR hret ls hl hw
  replace hl : lv_has ls 1 [(0, .ref (ad 0))] := hl
  obtain ⟨H, hH⟩ : ∃ z, z = s.heap := ⟨_, rfl⟩
  obtain ⟨locs, hlo⟩ : ∃ z : List Loc, z = [] := ⟨_, rfl⟩
  rw [← hH, ← hlo]
  replace hw : Wx vwCl G LM ad s H locs σ := by rw [hH, hlo]; exact hw
  clear hH hlo
  refine x_aload_n X dX8_gaps_0 rfl (lv_at hl 0 rfl) ?_
  refine x_getr X hw lm0 cX8 0 (by decide) rfl n_M_gaps_1 n_M_gaps_0 dX8_gaps_1 ?_
  refine x_iconst X dX8_gaps_4 ?_
  refine x_iald X hw lm1 k32_0 rfl (show (0 : Int) ≤ 0 ∧ (0 : Int) < 204 by decide) dX8_gaps_5 ?_
  refine x_iconst X dX8_gaps_6 ?_
  refine x_isub X dX8_gaps_7 ?_
  exact hret ((σ 1 0) - 1) σ H locs ls 8 hV hw dX8_gaps_8

theorem n_M_threads_0 : Cond.fieldLink RX8 9 "LacePillowModel" "now" "[I" ∈ wsX8_threads := by decide +kernel
theorem n_M_threads_1 : ∀ w ∈ wsX80, w ∈ wsX8_threads := by decide +kernel
set_option maxHeartbeats 4000000 in
set_option maxRecDepth 100000 in
theorem c_M_threads (l : Launch) (G : GT) (ad : Nat → Nat) (hI : Inj LM ad) (σ : St) {Q : Int → St → Prop} (hV : V_M_threads σ Q) : Met l yX8_threads wsX8_threads (rmx 0 0) (Pq vwCl G LM ad σ [.ref (ad 0)]) (Qi vwCl G LM ad Q) 0 0 (Ax LM ad) := by
  unfold V_M_threads at hV
  refine x_meti (own := RX8) (by decide) rfl rfl (Nat.le_of_ble_eq_true rfl) hI ?_
  intro p e s m args below meth c R QQ X hR hret ls hl hw
  replace hl : lv_has ls 1 [(0, .ref (ad 0))] := hl
  obtain ⟨H, hH⟩ : ∃ z, z = s.heap := ⟨_, rfl⟩
  obtain ⟨locs, hlo⟩ : ∃ z : List Loc, z = [] := ⟨_, rfl⟩
  rw [← hH, ← hlo]
  replace hw : Wx vwCl G LM ad s H locs σ := by rw [hH, hlo]; exact hw
  clear hH hlo
  refine x_iconst X dX8_threads_0 ?_
  refine x_aload_n X dX8_threads_1 rfl (lv_at hl 0 rfl) ?_
  refine x_getr X hw lm0 cX8 0 (by decide) rfl n_M_threads_1 n_M_threads_0 dX8_threads_2 ?_
  refine x_iconst X dX8_threads_5 ?_
  refine x_iald X hw lm1 k32_0 rfl (show (0 : Int) ≤ 0 ∧ (0 : Int) < 204 by decide) dX8_threads_6 ?_
  refine x_imul X dX8_threads_7 ?_
  exact hret (2 * (σ 1 0)) σ H locs ls 8 hV hw dX8_threads_8

theorem n_M_held_0 : Cond.fieldLink RX8 9 "LacePillowModel" "now" "[I" ∈ wsX8_held := by decide +kernel
theorem n_M_held_1 : ∀ w ∈ wsX80, w ∈ wsX8_held := by decide +kernel
set_option maxHeartbeats 4000000 in
set_option maxRecDepth 100000 in
theorem c_M_held (l : Launch) (G : GT) (ad : Nat → Nat) (hI : Inj LM ad) (σ : St) (a1 : Int) (a2 : Int) {Q : Int → St → Prop} (hV : V_M_held σ a1 a2 Q) : Met l yX8_held wsX8_held (rmx 0 0) (Pq vwCl G LM ad σ [.ref (ad 0), iV a1, iV a2]) (Qi vwCl G LM ad Q) 0 0 (Ax LM ad) := by
  unfold V_M_held at hV
  refine x_meti (own := RX8) (by decide) rfl rfl (Nat.le_of_ble_eq_true rfl) hI ?_
  intro p e s m args below meth c R QQ X hR hret ls hl hw
  replace hl : lv_has ls 3 [(0, .ref (ad 0)), (1, iV a1), (2, iV a2)] := hl
  obtain ⟨H, hH⟩ : ∃ z, z = s.heap := ⟨_, rfl⟩
  obtain ⟨locs, hlo⟩ : ∃ z : List Loc, z = [] := ⟨_, rfl⟩
  rw [← hH, ← hlo]
  replace hw : Wx vwCl G LM ad s H locs σ := by rw [hH, hlo]; exact hw
  clear hH hlo
  refine x_aload_n X dX8_held_0 rfl (lv_at hl 0 rfl) ?_
  refine x_getr X hw lm0 cX8 0 (by decide) rfl n_M_held_1 n_M_held_0 dX8_held_1 ?_
  refine x_iconst X dX8_held_4 ?_
  refine x_bipush X dX8_held_5 (by decide) ?_
  refine x_iload_n X dX8_held_7 rfl (lv_at hl 1 rfl) ?_
  refine x_imul X dX8_held_8 ?_
  refine x_iadd X dX8_held_9 ?_
  refine x_iload_n X dX8_held_10 rfl (lv_at hl 2 rfl) ?_
  refine x_iadd X dX8_held_11 ?_
  obtain ⟨hi, hV⟩ := hV
  refine x_iald X hw lm1 rfl rfl hi dX8_held_12 ?_
  exact hret (σ 1 (i32 ((2 + (7 * a1)) + a2))) σ H locs ls 13 hV hw dX8_held_13

theorem n_M_add_0 : Cond.fieldLink RX8 22 "LacePillowModel" "row" "[I" ∈ wsX8_add := by decide +kernel
theorem n_M_add_1 : ∀ w ∈ wsX80, w ∈ wsX8_add := by decide +kernel
theorem n_M_add_2 : Cond.fieldLink RX8 120 "LacePillowModel" "many" "I" ∈ wsX8_add := by decide +kernel
theorem n_M_add_3 : Cond.fieldLink RX8 25 "LacePillowModel" "gap" "[I" ∈ wsX8_add := by decide +kernel
theorem n_M_add_4 : Cond.fieldLink RX8 28 "LacePillowModel" "kind" "[I" ∈ wsX8_add := by decide +kernel
theorem n_M_add_5 : Cond.fieldLink RX8 34 "LacePillowModel" "ahead" "[J" ∈ wsX8_add := by decide +kernel
theorem n_M_add_6 : Cond.fieldLink RX8 31 "LacePillowModel" "level" "[I" ∈ wsX8_add := by decide +kernel
set_option maxHeartbeats 4000000 in
set_option maxRecDepth 100000 in
theorem c_M_add (l : Launch) (G : GT) (ad : Nat → Nat) (hI : Inj LM ad) (σ : St) (a1 : Int) (a2 : Int) {Q : St → Prop} (hV : V_M_add σ a1 a2 Q) : Met l yX8_add wsX8_add (rmx 1 22) (Pq vwCl G LM ad σ [.ref (ad 0), iV a1, iV a2]) (Qv vwCl G LM ad Q) 0 0 (Ax LM ad) := by
  unfold V_M_add at hV
  refine x_metv (own := RX8) (by decide) rfl rfl (Nat.le_of_ble_eq_true rfl) hI ?_
  intro p e s m args below meth c R QQ X hR hret ls hl hw
  replace hl : lv_has ls 5 [(0, .ref (ad 0)), (1, iV a1), (2, iV a2)] := hl
  obtain ⟨H, hH⟩ : ∃ z, z = s.heap := ⟨_, rfl⟩
  obtain ⟨locs, hlo⟩ : ∃ z : List Loc, z = [] := ⟨_, rfl⟩
  rw [← hH, ← hlo]
  replace hw : Wx vwCl G LM ad s H locs σ := by rw [hH, hlo]; exact hw
  clear hH hlo
  refine x_aload_n X dX8_add_0 rfl (lv_at hl 0 rfl) ?_
  refine x_getr X hw lm0 cX8 6 (by decide) rfl n_M_add_1 n_M_add_0 dX8_add_1 ?_
  refine x_aload_n X dX8_add_4 rfl (lv_at hl 0 rfl) ?_
  refine x_geti X hw lm0 cX8 5 (by decide) rfl n_M_add_1 n_M_add_2 dX8_add_5 ?_
  refine x_iload_n X dX8_add_8 rfl (lv_at hl 1 rfl) ?_
  obtain ⟨hi, hV⟩ := hV
  refine x_iast X hw lm5 rfl rfl hi dX8_add_9 (fun H locs σ1 hs hw => ?_)
  replace hV := hV σ1 hs
  refine x_aload_n X dX8_add_10 rfl (lv_at hl 0 rfl) ?_
  refine x_getr X hw lm0 cX8 7 (by decide) rfl n_M_add_1 n_M_add_3 dX8_add_11 ?_
  refine x_aload_n X dX8_add_14 rfl (lv_at hl 0 rfl) ?_
  refine x_geti X hw lm0 cX8 5 (by decide) rfl n_M_add_1 n_M_add_2 dX8_add_15 ?_
  refine x_iload_n X dX8_add_18 rfl (lv_at hl 2 rfl) ?_
  obtain ⟨hi, hV⟩ := hV
  refine x_iast X hw lm6 rfl rfl hi dX8_add_19 (fun H locs σ2 hs hw => ?_)
  replace hV := hV σ2 hs
  refine x_aload_n X dX8_add_20 rfl (lv_at hl 0 rfl) ?_
  refine x_getr X hw lm0 cX8 8 (by decide) rfl n_M_add_1 n_M_add_4 dX8_add_21 ?_
  refine x_aload_n X dX8_add_24 rfl (lv_at hl 0 rfl) ?_
  refine x_geti X hw lm0 cX8 5 (by decide) rfl n_M_add_1 n_M_add_2 dX8_add_25 ?_
  refine x_aload_n X dX8_add_28 rfl (lv_at hl 0 rfl) ?_
  refine x_iload_n X dX8_add_29 rfl (lv_at hl 1 rfl) ?_
  refine x_iload_n X dX8_add_30 rfl (lv_at hl 2 rfl) ?_
  refine x_cvi X hw [iV a1, iV a2] [iV (σ2 0 5), .ref (ad 7)] (c_M_held l G ad hI σ2 a1 a2 hV) (cwV 2 X.2.2.2.2 gX8_add_X8_held rfl rfl rfl hd_M_held ⟨x_fr hR.1 rfl, x_fr hR.2 rfl⟩) lm0 cX8 rfl hl.1 rfl (Nat.le_of_ble_eq_true rfl) dX8_add_31 ⟨Nat.zero_le _, Nat.zero_le _⟩ (fun r4 σ3 H locs hV hw => ?_)
  obtain ⟨hi, hV⟩ := hV
  refine x_iast X hw lm7 rfl rfl hi dX8_add_34 (fun H locs σ5 hs hw => ?_)
  replace hV := hV σ5 hs
  refine x_aload_n X dX8_add_35 rfl (lv_at hl 0 rfl) ?_
  refine x_getr X hw lm0 cX8 10 (by decide) rfl n_M_add_1 n_M_add_5 dX8_add_36 ?_
  refine x_aload_n X dX8_add_39 rfl (lv_at hl 0 rfl) ?_
  refine x_geti X hw lm0 cX8 5 (by decide) rfl n_M_add_1 n_M_add_2 dX8_add_40 ?_
  refine x_lconst X 0 dX8_add_43 rfl ?_
  obtain ⟨hi, hV⟩ := hV
  refine x_last X hw lm9 rfl rfl hi dX8_add_44 (fun H locs σ6 hs hw => ?_)
  replace hV := hV σ6 hs
  refine x_aload_n X dX8_add_45 rfl (lv_at hl 0 rfl) ?_
  refine x_getr X hw lm0 cX8 9 (by decide) rfl n_M_add_1 n_M_add_6 dX8_add_46 ?_
  refine x_aload_n X dX8_add_49 rfl (lv_at hl 0 rfl) ?_
  refine x_geti X hw lm0 cX8 5 (by decide) rfl n_M_add_1 n_M_add_2 dX8_add_50 ?_
  refine x_iconst X dX8_add_53 ?_
  obtain ⟨hi, hV⟩ := hV
  refine x_iast X hw lm8 rfl rfl hi dX8_add_54 (fun H locs σ7 hs hw => ?_)
  replace hV := hV σ7 hs
  refine x_iconst X dX8_add_55 ?_
  refine x_istore_n X [(3, iV 0), (0, .ref (ad 0)), (1, iV a1), (2, iV a2)] dX8_add_56 rfl hl (by decide) rfl (fun ls hl => ?_)
  refine WL1.use (Gl := fun x3_8 σ9 => ∀ (H : Heap) (locs : List Loc) (ls : Array Slot), Wx vwCl G LM ad s H locs σ9 → lv_has ls 5 [(3, iV x3_8), (0, .ref (ad 0)), (1, iV a1), (2, iV a2)] → W p l e R s m args below meth c H locs 0 0 QQ (F0 m 57 ls [])) ?_ hV H locs ls hw hl
  clear hV hw hl H locs ls
  intro bk10 x3_8 σ9 hbk10 hV H locs ls hw hl
  refine x_iload_n X dX8_add_57 rfl (lv_at hl 0 rfl) ?_
  refine x_aload_n X dX8_add_58 rfl (lv_at hl 1 rfl) ?_
  refine x_geti X hw lm0 cX8 5 (by decide) rfl n_M_add_1 n_M_add_2 dX8_add_59 ?_
  refine x_icmp_ge X rfl rfl 173 dX8_add_62 (by decide) (fun hc => ?_) (fun hc => ?_)
  · replace hV := hV.1 hc
    refine x_aload_n X dX8_add_173 rfl (lv_at hl 1 rfl) ?_
    refine x_dup X dX8_add_174 rfl ?_
    refine x_geti X hw lm0 cX8 5 (by decide) rfl n_M_add_1 n_M_add_2 dX8_add_175 ?_
    refine x_iconst X dX8_add_178 ?_
    refine x_iadd X dX8_add_179 ?_
    refine x_puti X hw lm0 cX8 5 (by decide) rfl n_M_add_1 n_M_add_2 tyX8 tyX8_ok nmX8 rfl rfl rfl dX8_add_180 (fun H locs σ11 hs hw => ?_)
    replace hV := hV σ11 hs
    exact hret σ11 H locs ls 183 hV hw dX8_add_183
  · replace hV := hV.2 hc
    refine x_aload_n X dX8_add_65 rfl (lv_at hl 1 rfl) ?_
    refine x_getr X hw lm0 cX8 7 (by decide) rfl n_M_add_1 n_M_add_3 dX8_add_66 ?_
    refine x_iload_n X dX8_add_69 rfl (lv_at hl 0 rfl) ?_
    obtain ⟨hi, hV⟩ := hV
    refine x_iald X hw lm6 rfl rfl hi dX8_add_70 ?_
    refine x_iload_n X dX8_add_71 rfl (lv_at hl 3 rfl) ?_
    refine x_isub X dX8_add_72 ?_
    refine x_bi (fun x4_12 ex4_12 => ?_)
    replace hV := hV x4_12 ex4_12
    clear ex4_12
    refine x_istore X [(4, iV x4_12), (3, iV x3_8), (0, .ref (ad 0)), (1, iV a1), (2, iV a2)] dX8_add_73 hl (by decide) rfl (fun ls hl => ?_)
    refine x_aload_n X dX8_add_75 rfl (lv_at hl 2 rfl) ?_
    refine x_getr X hw lm0 cX8 6 (by decide) rfl n_M_add_1 n_M_add_0 dX8_add_76 ?_
    refine x_iload_n X dX8_add_79 rfl (lv_at hl 1 rfl) ?_
    obtain ⟨hi, hV⟩ := hV
    refine x_iald X hw lm5 rfl rfl hi dX8_add_80 ?_
    refine x_iload_n X dX8_add_81 rfl (lv_at hl 3 rfl) ?_
    refine x_icmp_ge X rfl rfl 167 dX8_add_82 (by decide) (fun hc => ?_) (fun hc => ?_)
    · replace hV := hV.1 hc
      refine x_iinc X (k := 1) (x3_8 + 1) [(3, iV (x3_8 + 1)), (4, iV x4_12), (0, .ref (ad 0)), (1, iV a1), (2, iV a2)] dX8_add_167 hl rfl rfl (by decide) rfl (fun ls hl => ?_)
      refine x_goto X 57 dX8_add_170 (by decide) ?_
      exact hbk10 (x3_8 + 1) σ9 hV H locs ls hw (lv_sub hl [0, 2, 3, 4] rfl)
    · replace hV := hV.2 hc
      refine x_iload X dX8_add_85 (lv_at hl 0 rfl) ?_
      refine x_bipush X dX8_add_87 (by decide) ?_
      refine x_icmp_le X rfl k32_m2 167 dX8_add_89 (by decide) (fun hc => ?_) (fun hc => ?_)
      · replace hV := hV.1 hc
        refine x_iinc X (k := 1) (x3_8 + 1) [(3, iV (x3_8 + 1)), (4, iV x4_12), (0, .ref (ad 0)), (1, iV a1), (2, iV a2)] dX8_add_167 hl rfl rfl (by decide) rfl (fun ls hl => ?_)
        refine x_goto X 57 dX8_add_170 (by decide) ?_
        exact hbk10 (x3_8 + 1) σ9 hV H locs ls hw (lv_sub hl [0, 2, 3, 4] rfl)
      · replace hV := hV.2 hc
        refine x_iload X dX8_add_92 (lv_at hl 0 rfl) ?_
        refine x_iconst X dX8_add_94 ?_
        refine x_icmp_ge X rfl k32_2 167 dX8_add_95 (by decide) (fun hc => ?_) (fun hc => ?_)
        · replace hV := hV.1 hc
          refine x_iinc X (k := 1) (x3_8 + 1) [(3, iV (x3_8 + 1)), (4, iV x4_12), (0, .ref (ad 0)), (1, iV a1), (2, iV a2)] dX8_add_167 hl rfl rfl (by decide) rfl (fun ls hl => ?_)
          refine x_goto X 57 dX8_add_170 (by decide) ?_
          exact hbk10 (x3_8 + 1) σ9 hV H locs ls hw (lv_sub hl [0, 2, 3, 4] rfl)
        · replace hV := hV.2 hc
          refine x_aload_n X dX8_add_98 rfl (lv_at hl 2 rfl) ?_
          refine x_getr X hw lm0 cX8 10 (by decide) rfl n_M_add_1 n_M_add_5 dX8_add_99 ?_
          refine x_aload_n X dX8_add_102 rfl (lv_at hl 2 rfl) ?_
          refine x_geti X hw lm0 cX8 5 (by decide) rfl n_M_add_1 n_M_add_2 dX8_add_103 ?_
          refine x_dup2 X dX8_add_106 rfl rfl ?_
          obtain ⟨hi, hV⟩ := hV
          refine x_lald X hw lm9 rfl rfl hi dX8_add_107 ?_
          refine x_aload_n X dX8_add_108 rfl (lv_at hl 2 rfl) ?_
          refine x_getr X hw lm0 cX8 10 (by decide) rfl n_M_add_1 n_M_add_5 dX8_add_109 ?_
          refine x_iload_n X dX8_add_112 rfl (lv_at hl 1 rfl) ?_
          obtain ⟨hi, hV⟩ := hV
          refine x_lald X hw lm9 rfl rfl hi dX8_add_113 ?_
          refine x_lconst X 1 dX8_add_114 rfl ?_
          refine x_iload_n X dX8_add_115 rfl (lv_at hl 1 rfl) ?_
          refine x_lshl X dX8_add_116 ?_
          refine x_lor X dX8_add_117 ?_
          refine x_lor X dX8_add_118 ?_
          obtain ⟨hi, hV⟩ := hV
          refine x_last X hw lm9 rfl rfl hi dX8_add_119 (fun H locs σ13 hs hw => ?_)
          replace hV := hV σ13 hs
          refine x_aload_n X dX8_add_120 rfl (lv_at hl 2 rfl) ?_
          refine x_getr X hw lm0 cX8 9 (by decide) rfl n_M_add_1 n_M_add_6 dX8_add_121 ?_
          refine x_aload_n X dX8_add_124 rfl (lv_at hl 2 rfl) ?_
          refine x_geti X hw lm0 cX8 5 (by decide) rfl n_M_add_1 n_M_add_2 dX8_add_125 ?_
          refine x_aload_n X dX8_add_128 rfl (lv_at hl 2 rfl) ?_
          refine x_getr X hw lm0 cX8 9 (by decide) rfl n_M_add_1 n_M_add_6 dX8_add_129 ?_
          refine x_iload_n X dX8_add_132 rfl (lv_at hl 1 rfl) ?_
          obtain ⟨hi, hV⟩ := hV
          refine x_iald X hw lm8 rfl rfl hi dX8_add_133 ?_
          refine x_aload_n X dX8_add_134 rfl (lv_at hl 2 rfl) ?_
          refine x_getr X hw lm0 cX8 9 (by decide) rfl n_M_add_1 n_M_add_6 dX8_add_135 ?_
          refine x_aload_n X dX8_add_138 rfl (lv_at hl 2 rfl) ?_
          refine x_geti X hw lm0 cX8 5 (by decide) rfl n_M_add_1 n_M_add_2 dX8_add_139 ?_
          obtain ⟨hi, hV⟩ := hV
          refine x_iald X hw lm8 rfl rfl hi dX8_add_142 ?_
          refine x_icmp_lt X rfl rfl 157 dX8_add_143 (by decide) (fun hc => ?_) (fun hc => ?_)
          · replace hV := hV.1 hc
            refine x_aload_n X dX8_add_157 rfl (lv_at hl 2 rfl) ?_
            refine x_getr X hw lm0 cX8 9 (by decide) rfl n_M_add_1 n_M_add_6 dX8_add_158 ?_
            refine x_aload_n X dX8_add_161 rfl (lv_at hl 2 rfl) ?_
            refine x_geti X hw lm0 cX8 5 (by decide) rfl n_M_add_1 n_M_add_2 dX8_add_162 ?_
            obtain ⟨hi, hV⟩ := hV
            refine x_iald X hw lm8 rfl rfl hi dX8_add_165 ?_
            obtain ⟨hi, hV⟩ := hV
            refine x_iast X hw lm8 rfl rfl hi dX8_add_166 (fun H locs σ14 hs hw => ?_)
            replace hV := hV σ14 hs
            refine x_iinc X (k := 1) (x3_8 + 1) [(3, iV (x3_8 + 1)), (4, iV x4_12), (0, .ref (ad 0)), (1, iV a1), (2, iV a2)] dX8_add_167 hl rfl rfl (by decide) rfl (fun ls hl => ?_)
            refine x_goto X 57 dX8_add_170 (by decide) ?_
            exact hbk10 (x3_8 + 1) σ14 hV H locs ls hw (lv_sub hl [0, 2, 3, 4] rfl)
          · replace hV := hV.2 hc
            refine x_aload_n X dX8_add_146 rfl (lv_at hl 2 rfl) ?_
            refine x_getr X hw lm0 cX8 9 (by decide) rfl n_M_add_1 n_M_add_6 dX8_add_147 ?_
            refine x_iload_n X dX8_add_150 rfl (lv_at hl 1 rfl) ?_
            obtain ⟨hi, hV⟩ := hV
            refine x_iald X hw lm8 rfl rfl hi dX8_add_151 ?_
            refine x_iconst X dX8_add_152 ?_
            refine x_iadd X dX8_add_153 ?_
            refine x_goto X 166 dX8_add_154 (by decide) ?_
            obtain ⟨hi, hV⟩ := hV
            refine x_iast X hw lm8 rfl rfl hi dX8_add_166 (fun H locs σ15 hs hw => ?_)
            replace hV := hV σ15 hs
            refine x_iinc X (k := 1) (x3_8 + 1) [(3, iV (x3_8 + 1)), (4, iV x4_12), (0, .ref (ad 0)), (1, iV a1), (2, iV a2)] dX8_add_167 hl rfl rfl (by decide) rfl (fun ls hl => ?_)
            refine x_goto X 57 dX8_add_170 (by decide) ?_
            exact hbk10 (x3_8 + 1) σ15 hV H locs ls hw (lv_sub hl [0, 2, 3, 4] rfl)
