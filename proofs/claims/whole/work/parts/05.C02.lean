theorem n_Weave_noteSide_0 : Cond.fieldLink RX6 30 "LacePillow$Weave" "sides" "[I" ∈ wsX6_noteSide := by decide +kernel
theorem n_Weave_noteSide_1 : ∀ w ∈ wsX60, w ∈ wsX6_noteSide := by decide +kernel
theorem n_Weave_noteSide_2 : Cond.fieldLink RX6 27 "LacePillow$Weave" "falses" "[I" ∈ wsX6_noteSide := by decide +kernel
theorem n_Weave_noteSide_3 : Cond.fieldLink RX6 21 "LacePillow$Weave" "overs" "[I" ∈ wsX6_noteSide := by decide +kernel
theorem n_Weave_noteSide_4 : Cond.fieldLink RX6 24 "LacePillow$Weave" "unders" "[I" ∈ wsX6_noteSide := by decide +kernel
set_option maxHeartbeats 4000000 in
set_option maxRecDepth 100000 in
theorem c_Weave_noteSide (l : Launch) (G : GT) (ad : Nat → Nat) (hI : Inj LX ad) (o : Nat) (ho : isWeave o) (σ : St) (a1 : Int) (a2 : Int) {Q : St → Prop} (hV : V_Weave_noteSide o σ a1 a2 Q) : Met l yX6_noteSide wsX6_noteSide (rmx 0 0) (Pq vwCl G LX ad σ [.ref (ad o), iV a1, iV a2]) (Qv vwCl G LX ad Q) 0 0 (Ax LX ad) := by
  unfold V_Weave_noteSide at hV
  refine x_metv (own := RX6) (by decide) rfl rfl (Nat.le_of_ble_eq_true rfl) hI ?_
  intro p e s m args below meth c R QQ X hR hret ls hl hw
  replace hl : lv_has ls 3 [(0, .ref (ad o)), (1, iV a1), (2, iV a2)] := hl
  obtain ⟨H, hH⟩ : ∃ z, z = s.heap := ⟨_, rfl⟩
  obtain ⟨locs, hlo⟩ : ∃ z : List Loc, z = [] := ⟨_, rfl⟩
  rw [← hH, ← hlo]
  replace hw : Wx vwCl G LX ad s H locs σ := by rw [hH, hlo]; exact hw
  clear hH hlo
  refine x_aload_n X dX6_noteSide_0 rfl (lv_at hl 0 rfl) ?_
  refine x_getr X hw (lfWeave ho) cX6 6 (by decide) rfl n_Weave_noteSide_1 n_Weave_noteSide_0 dX6_noteSide_1 ?_
  refine x_iload_n X dX6_noteSide_4 rfl (lv_at hl 1 rfl) ?_
  obtain ⟨hi, hV⟩ := hV
  refine x_iald X hw (lfWeave7 ho) rfl rfl hi dX6_noteSide_5 ?_
  refine x_iload_n X dX6_noteSide_6 rfl (lv_at hl 2 rfl) ?_
  refine x_icmp_ne X rfl rfl 38 dX6_noteSide_7 (by decide) (fun hc => ?_) (fun hc => ?_)
  · replace hV := hV.1 hc
    refine x_aload_n X dX6_noteSide_38 rfl (lv_at hl 0 rfl) ?_
    refine x_getr X hw (lfWeave ho) cX6 6 (by decide) rfl n_Weave_noteSide_1 n_Weave_noteSide_0 dX6_noteSide_39 ?_
    refine x_iload_n X dX6_noteSide_42 rfl (lv_at hl 1 rfl) ?_
    refine x_iload_n X dX6_noteSide_43 rfl (lv_at hl 2 rfl) ?_
    obtain ⟨hi, hV⟩ := hV
    refine x_iast X hw (lfWeave7 ho) rfl rfl hi dX6_noteSide_44 (fun H locs σ1 hs hw => ?_)
    replace hV := hV σ1 hs
    exact hret σ1 H locs ls 45 hV hw dX6_noteSide_45
  · replace hV := hV.2 hc
    refine x_aload_n X dX6_noteSide_10 rfl (lv_at hl 0 rfl) ?_
    refine x_getr X hw (lfWeave ho) cX6 5 (by decide) rfl n_Weave_noteSide_1 n_Weave_noteSide_2 dX6_noteSide_11 ?_
    refine x_iload_n X dX6_noteSide_14 rfl (lv_at hl 1 rfl) ?_
    obtain ⟨hi, hV⟩ := hV
    refine x_iald X hw (lfWeave6 ho) rfl rfl hi dX6_noteSide_15 ?_
    refine x_if_ge X rfl 38 dX6_noteSide_16 (by decide) (fun hc => ?_) (fun hc => ?_)
    · replace hV := hV.1 hc
      refine x_aload_n X dX6_noteSide_38 rfl (lv_at hl 0 rfl) ?_
      refine x_getr X hw (lfWeave ho) cX6 6 (by decide) rfl n_Weave_noteSide_1 n_Weave_noteSide_0 dX6_noteSide_39 ?_
      refine x_iload_n X dX6_noteSide_42 rfl (lv_at hl 1 rfl) ?_
      refine x_iload_n X dX6_noteSide_43 rfl (lv_at hl 2 rfl) ?_
      obtain ⟨hi, hV⟩ := hV
      refine x_iast X hw (lfWeave7 ho) rfl rfl hi dX6_noteSide_44 (fun H locs σ2 hs hw => ?_)
      replace hV := hV σ2 hs
      exact hret σ2 H locs ls 45 hV hw dX6_noteSide_45
    · replace hV := hV.2 hc
      refine x_aload_n X dX6_noteSide_19 rfl (lv_at hl 0 rfl) ?_
      refine x_getr X hw (lfWeave ho) cX6 5 (by decide) rfl n_Weave_noteSide_1 n_Weave_noteSide_2 dX6_noteSide_20 ?_
      refine x_iload_n X dX6_noteSide_23 rfl (lv_at hl 1 rfl) ?_
      refine x_aload_n X dX6_noteSide_24 rfl (lv_at hl 0 rfl) ?_
      refine x_getr X hw (lfWeave ho) cX6 3 (by decide) rfl n_Weave_noteSide_1 n_Weave_noteSide_3 dX6_noteSide_25 ?_
      refine x_iload_n X dX6_noteSide_28 rfl (lv_at hl 1 rfl) ?_
      obtain ⟨hi, hV⟩ := hV
      refine x_iald X hw (lfWeave4 ho) rfl rfl hi dX6_noteSide_29 ?_
      refine x_aload_n X dX6_noteSide_30 rfl (lv_at hl 0 rfl) ?_
      refine x_getr X hw (lfWeave ho) cX6 4 (by decide) rfl n_Weave_noteSide_1 n_Weave_noteSide_4 dX6_noteSide_31 ?_
      refine x_iload_n X dX6_noteSide_34 rfl (lv_at hl 1 rfl) ?_
      obtain ⟨hi, hV⟩ := hV
      refine x_iald X hw (lfWeave5 ho) rfl rfl hi dX6_noteSide_35 ?_
      refine x_iadd X dX6_noteSide_36 ?_
      obtain ⟨hi, hV⟩ := hV
      refine x_iast X hw (lfWeave6 ho) rfl rfl hi dX6_noteSide_37 (fun H locs σ3 hs hw => ?_)
      replace hV := hV σ3 hs
      refine x_aload_n X dX6_noteSide_38 rfl (lv_at hl 0 rfl) ?_
      refine x_getr X hw (lfWeave ho) cX6 6 (by decide) rfl n_Weave_noteSide_1 n_Weave_noteSide_0 dX6_noteSide_39 ?_
      refine x_iload_n X dX6_noteSide_42 rfl (lv_at hl 1 rfl) ?_
      refine x_iload_n X dX6_noteSide_43 rfl (lv_at hl 2 rfl) ?_
      obtain ⟨hi, hV⟩ := hV
      refine x_iast X hw (lfWeave7 ho) rfl rfl hi dX6_noteSide_44 (fun H locs σ4 hs hw => ?_)
      replace hV := hV σ4 hs
      exact hret σ4 H locs ls 45 hV hw dX6_noteSide_45

theorem n_Weave_pass_0 : Cond.fieldLink RX6 21 "LacePillow$Weave" "overs" "[I" ∈ wsX6_pass := by decide +kernel
theorem n_Weave_pass_1 : ∀ w ∈ wsX60, w ∈ wsX6_pass := by decide +kernel
theorem n_Weave_pass_2 : Cond.fieldLink RX6 24 "LacePillow$Weave" "unders" "[I" ∈ wsX6_pass := by decide +kernel
theorem n_Weave_pass_3 : Cond.fieldLink RX6 18 "LacePillow$Weave" "used" "[I" ∈ wsX6_pass := by decide +kernel
theorem n_Weave_pass_4 : Cond.fieldLink RX6 33 "LacePillow$Weave" "passes" "[I" ∈ wsX6_pass := by decide +kernel
set_option maxHeartbeats 4000000 in
set_option maxRecDepth 100000 in
theorem c_Weave_pass (l : Launch) (G : GT) (ad : Nat → Nat) (hI : Inj LX ad) (o : Nat) (ho : isWeave o) (σ : St) (a1 : Int) (a2 : Int) {Q : St → Prop} (hV : V_Weave_pass o σ a1 a2 Q) : Met l yX6_pass wsX6_pass (rmx 1 22) (Pq vwCl G LX ad σ [.ref (ad o), iV a1, iV a2]) (Qv vwCl G LX ad Q) 0 0 (Ax LX ad) := by
  unfold V_Weave_pass at hV
  refine x_metv (own := RX6) (by decide) rfl rfl (Nat.le_of_ble_eq_true rfl) hI ?_
  intro p e s m args below meth c R QQ X hR hret ls hl hw
  replace hl : lv_has ls 3 [(0, .ref (ad o)), (1, iV a1), (2, iV a2)] := hl
  obtain ⟨H, hH⟩ : ∃ z, z = s.heap := ⟨_, rfl⟩
  obtain ⟨locs, hlo⟩ : ∃ z : List Loc, z = [] := ⟨_, rfl⟩
  rw [← hH, ← hlo]
  replace hw : Wx vwCl G LX ad s H locs σ := by rw [hH, hlo]; exact hw
  clear hH hlo
  refine x_aload_n X dX6_pass_0 rfl (lv_at hl 0 rfl) ?_
  refine x_iload_n X dX6_pass_1 rfl (lv_at hl 1 rfl) ?_
  refine x_iconst X dX6_pass_2 ?_
  refine x_cvv X hw [iV a1, iV 1] [] (c_Weave_noteSide l G ad hI o ho σ a1 1 hV) (cwV 2 X.2.2.2.2 gX6_pass_X6_noteSide rfl rfl rfl hd_Weave_noteSide ⟨x_fr hR.1 rfl, x_fr hR.2 rfl⟩) (lfWeave ho) cX6 rfl hl.1 rfl (Nat.le_of_ble_eq_true rfl) dX6_pass_3 ⟨Nat.zero_le _, Nat.zero_le _⟩ (fun σ1 H locs hV hw => ?_)
  refine x_aload_n X dX6_pass_6 rfl (lv_at hl 0 rfl) ?_
  refine x_iload_n X dX6_pass_7 rfl (lv_at hl 2 rfl) ?_
  refine x_iconst X dX6_pass_8 ?_
  refine x_cvv X hw [iV a2, iV 2] [] (c_Weave_noteSide l G ad hI o ho σ1 a2 2 hV) (cwV 2 X.2.2.2.2 gX6_pass_X6_noteSide rfl rfl rfl hd_Weave_noteSide ⟨x_fr hR.1 rfl, x_fr hR.2 rfl⟩) (lfWeave ho) cX6 rfl hl.1 rfl (Nat.le_of_ble_eq_true rfl) dX6_pass_9 ⟨Nat.zero_le _, Nat.zero_le _⟩ (fun σ2 H locs hV hw => ?_)
  refine x_aload_n X dX6_pass_12 rfl (lv_at hl 0 rfl) ?_
  refine x_getr X hw (lfWeave ho) cX6 3 (by decide) rfl n_Weave_pass_1 n_Weave_pass_0 dX6_pass_13 ?_
  refine x_iload_n X dX6_pass_16 rfl (lv_at hl 1 rfl) ?_
  refine x_dup2 X dX6_pass_17 rfl rfl ?_
  obtain ⟨hi, hV⟩ := hV
  refine x_iald X hw (lfWeave4 ho) rfl rfl hi dX6_pass_18 ?_
  refine x_iconst X dX6_pass_19 ?_
  refine x_iadd X dX6_pass_20 ?_
  obtain ⟨hi, hV⟩ := hV
  refine x_iast X hw (lfWeave4 ho) rfl rfl hi dX6_pass_21 (fun H locs σ3 hs hw => ?_)
  replace hV := hV σ3 hs
  refine x_aload_n X dX6_pass_22 rfl (lv_at hl 0 rfl) ?_
  refine x_getr X hw (lfWeave ho) cX6 4 (by decide) rfl n_Weave_pass_1 n_Weave_pass_2 dX6_pass_23 ?_
  refine x_iload_n X dX6_pass_26 rfl (lv_at hl 2 rfl) ?_
  refine x_dup2 X dX6_pass_27 rfl rfl ?_
  obtain ⟨hi, hV⟩ := hV
  refine x_iald X hw (lfWeave5 ho) rfl rfl hi dX6_pass_28 ?_
  refine x_iconst X dX6_pass_29 ?_
  refine x_iadd X dX6_pass_30 ?_
  obtain ⟨hi, hV⟩ := hV
  refine x_iast X hw (lfWeave5 ho) rfl rfl hi dX6_pass_31 (fun H locs σ4 hs hw => ?_)
  replace hV := hV σ4 hs
  refine x_aload_n X dX6_pass_32 rfl (lv_at hl 0 rfl) ?_
  refine x_getr X hw (lfWeave ho) cX6 2 (by decide) rfl n_Weave_pass_1 n_Weave_pass_3 dX6_pass_33 ?_
  refine x_iload_n X dX6_pass_36 rfl (lv_at hl 1 rfl) ?_
  refine x_dup2 X dX6_pass_37 rfl rfl ?_
  obtain ⟨hi, hV⟩ := hV
  refine x_iald X hw (lfWeave3 ho) rfl rfl hi dX6_pass_38 ?_
  refine x_iconst X dX6_pass_39 ?_
  refine x_iadd X dX6_pass_40 ?_
  obtain ⟨hi, hV⟩ := hV
  refine x_iast X hw (lfWeave3 ho) rfl rfl hi dX6_pass_41 (fun H locs σ5 hs hw => ?_)
  replace hV := hV σ5 hs
  refine x_aload_n X dX6_pass_42 rfl (lv_at hl 0 rfl) ?_
  refine x_getr X hw (lfWeave ho) cX6 2 (by decide) rfl n_Weave_pass_1 n_Weave_pass_3 dX6_pass_43 ?_
  refine x_iload_n X dX6_pass_46 rfl (lv_at hl 2 rfl) ?_
  refine x_dup2 X dX6_pass_47 rfl rfl ?_
  obtain ⟨hi, hV⟩ := hV
  refine x_iald X hw (lfWeave3 ho) rfl rfl hi dX6_pass_48 ?_
  refine x_iconst X dX6_pass_49 ?_
  refine x_iadd X dX6_pass_50 ?_
  obtain ⟨hi, hV⟩ := hV
  refine x_iast X hw (lfWeave3 ho) rfl rfl hi dX6_pass_51 (fun H locs σ6 hs hw => ?_)
  replace hV := hV σ6 hs
  refine x_aload_n X dX6_pass_52 rfl (lv_at hl 0 rfl) ?_
  refine x_getr X hw (lfWeave ho) cX6 7 (by decide) rfl n_Weave_pass_1 n_Weave_pass_4 dX6_pass_53 ?_
  refine x_iload_n X dX6_pass_56 rfl (lv_at hl 1 rfl) ?_
  refine x_bipush X dX6_pass_57 (by decide) ?_
  refine x_imul X dX6_pass_59 ?_
  refine x_iload_n X dX6_pass_60 rfl (lv_at hl 2 rfl) ?_
  refine x_iadd X dX6_pass_61 ?_
  refine x_dup2 X dX6_pass_62 rfl rfl ?_
  obtain ⟨hi, hV⟩ := hV
  refine x_iald X hw (lfWeave8 ho) rfl rfl hi dX6_pass_63 ?_
  refine x_iconst X dX6_pass_64 ?_
  refine x_iadd X dX6_pass_65 ?_
  obtain ⟨hi, hV⟩ := hV
  refine x_iast X hw (lfWeave8 ho) rfl rfl hi dX6_pass_66 (fun H locs σ7 hs hw => ?_)
  replace hV := hV σ7 hs
  exact hret σ7 H locs ls 67 hV hw dX6_pass_67

theorem n_Weave_cross_0 : Cond.fieldLink RX6 9 "LacePillow$Weave" "threads" "[I" ∈ wsX6_cross := by decide +kernel
theorem n_Weave_cross_1 : ∀ w ∈ wsX60, w ∈ wsX6_cross := by decide +kernel
theorem n_Weave_cross_2 : Cond.fieldLink RX6 15 "LacePillow$Weave" "places" "[I" ∈ wsX6_cross := by decide +kernel
theorem n_Weave_cross_3 : Cond.fieldLink RX6 39 "LacePillow$Weave" "heap" "LLacePillow$Heap;" ∈ wsX6_cross := by decide +kernel
theorem n_Weave_cross_4 : Cond.fieldLink RX6 43 "LacePillow$Weave" "crossings" "I" ∈ wsX6_cross := by decide +kernel
set_option maxHeartbeats 4000000 in
set_option maxRecDepth 100000 in
theorem c_Weave_cross (l : Launch) (G : GT) (ad : Nat → Nat) (hI : Inj LX ad) (o : Nat) (ho : isWeave o) (σ : St) (a1 : Int) (a2 : Int) {Q : St → Prop} (hV : V_Weave_cross o σ a1 a2 Q) : Met l yX6_cross wsX6_cross (rmx 2 55) (Pq vwCl G LX ad σ [.ref (ad o), iV a1, iV a2]) (Qv vwCl G LX ad Q) 0 0 (Ax LX ad) := by
  unfold V_Weave_cross at hV
  refine x_metv (own := RX6) (by decide) rfl rfl (Nat.le_of_ble_eq_true rfl) hI ?_
  intro p e s m args below meth c R QQ X hR hret ls hl hw
  replace hl : lv_has ls 5 [(0, .ref (ad o)), (1, iV a1), (2, iV a2)] := hl
  obtain ⟨H, hH⟩ : ∃ z, z = s.heap := ⟨_, rfl⟩
  obtain ⟨locs, hlo⟩ : ∃ z : List Loc, z = [] := ⟨_, rfl⟩
  rw [← hH, ← hlo]
  replace hw : Wx vwCl G LX ad s H locs σ := by rw [hH, hlo]; exact hw
  clear hH hlo
  refine x_aload_n X dX6_cross_0 rfl (lv_at hl 0 rfl) ?_
  refine x_getr X hw (lfWeave ho) cX6 0 (by decide) rfl n_Weave_cross_1 n_Weave_cross_0 dX6_cross_1 ?_
  refine x_iload_n X dX6_cross_4 rfl (lv_at hl 1 rfl) ?_
  obtain ⟨hi, hV⟩ := hV
  refine x_iald X hw (lfWeave1 ho) rfl rfl hi dX6_cross_5 ?_
  refine x_bi (fun x3_1 ex3_1 => ?_)
  replace hV := hV x3_1 ex3_1
  clear ex3_1
  refine x_istore_n X [(3, iV x3_1), (0, .ref (ad o)), (1, iV a1), (2, iV a2)] dX6_cross_6 rfl hl (by decide) rfl (fun ls hl => ?_)
  refine x_aload_n X dX6_cross_7 rfl (lv_at hl 1 rfl) ?_
  refine x_getr X hw (lfWeave ho) cX6 0 (by decide) rfl n_Weave_cross_1 n_Weave_cross_0 dX6_cross_8 ?_
  refine x_iload_n X dX6_cross_11 rfl (lv_at hl 2 rfl) ?_
  refine x_iconst X dX6_cross_12 ?_
  refine x_iadd X dX6_cross_13 ?_
  obtain ⟨hi, hV⟩ := hV
  refine x_iald X hw (lfWeave1 ho) rfl rfl hi dX6_cross_14 ?_
  refine x_bi (fun x4_2 ex4_2 => ?_)
  replace hV := hV x4_2 ex4_2
  clear ex4_2
  refine x_istore X [(4, iV x4_2), (3, iV x3_1), (0, .ref (ad o)), (1, iV a1), (2, iV a2)] dX6_cross_15 hl (by decide) rfl (fun ls hl => ?_)
  refine x_aload_n X dX6_cross_17 rfl (lv_at hl 2 rfl) ?_
  refine x_getr X hw (lfWeave ho) cX6 0 (by decide) rfl n_Weave_cross_1 n_Weave_cross_0 dX6_cross_18 ?_
  refine x_iload_n X dX6_cross_21 rfl (lv_at hl 3 rfl) ?_
  refine x_iload X dX6_cross_22 (lv_at hl 0 rfl) ?_
  obtain ⟨hi, hV⟩ := hV
  refine x_iast X hw (lfWeave1 ho) rfl rfl hi dX6_cross_24 (fun H locs σ3 hs hw => ?_)
  replace hV := hV σ3 hs
  refine x_aload_n X dX6_cross_25 rfl (lv_at hl 2 rfl) ?_
  refine x_getr X hw (lfWeave ho) cX6 0 (by decide) rfl n_Weave_cross_1 n_Weave_cross_0 dX6_cross_26 ?_
  refine x_iload_n X dX6_cross_29 rfl (lv_at hl 3 rfl) ?_
  refine x_iconst X dX6_cross_30 ?_
  refine x_iadd X dX6_cross_31 ?_
  refine x_iload_n X dX6_cross_32 rfl (lv_at hl 1 rfl) ?_
  obtain ⟨hi, hV⟩ := hV
  refine x_iast X hw (lfWeave1 ho) rfl rfl hi dX6_cross_33 (fun H locs σ4 hs hw => ?_)
  replace hV := hV σ4 hs
  refine x_aload_n X dX6_cross_34 rfl (lv_at hl 2 rfl) ?_
  refine x_getr X hw (lfWeave ho) cX6 1 (by decide) rfl n_Weave_cross_1 n_Weave_cross_2 dX6_cross_35 ?_
  refine x_iload X dX6_cross_38 (lv_at hl 0 rfl) ?_
  refine x_iload_n X dX6_cross_40 rfl (lv_at hl 3 rfl) ?_
  obtain ⟨hi, hV⟩ := hV
  refine x_iast X hw (lfWeave2 ho) rfl rfl hi dX6_cross_41 (fun H locs σ5 hs hw => ?_)
  replace hV := hV σ5 hs
  refine x_aload_n X dX6_cross_42 rfl (lv_at hl 2 rfl) ?_
  refine x_getr X hw (lfWeave ho) cX6 1 (by decide) rfl n_Weave_cross_1 n_Weave_cross_2 dX6_cross_43 ?_
  refine x_iload_n X dX6_cross_46 rfl (lv_at hl 1 rfl) ?_
  refine x_iload_n X dX6_cross_47 rfl (lv_at hl 3 rfl) ?_
  refine x_iconst X dX6_cross_48 ?_
  refine x_iadd X dX6_cross_49 ?_
  obtain ⟨hi, hV⟩ := hV
  refine x_iast X hw (lfWeave2 ho) rfl rfl hi dX6_cross_50 (fun H locs σ6 hs hw => ?_)
  replace hV := hV σ6 hs
  refine x_aload_n X dX6_cross_51 rfl (lv_at hl 2 rfl) ?_
  refine x_iload_n X dX6_cross_52 rfl (lv_at hl 4 rfl) ?_
  refine x_iconst X dX6_cross_53 ?_
  have hJ63 : ∀ (y1_7 : Int) (σ8 : St) (H : Heap) (locs : List Loc) (ls : Array Slot), J_Weave_cross_63 o a1 a2 Q x3_1 x4_2 y1_7 σ8 → Wx vwCl G LX ad s H locs σ8 → lv_has ls 5 [(4, iV x4_2), (3, iV x3_1), (0, .ref (ad o)), (1, iV a1), (2, iV a2)] → W p l e R s m args below meth c H locs 0 0 QQ (F0 m 63 ls [iV y1_7, .ref (ad o)]) := by
    intro y1_7 σ8 H locs ls hV hw hl
    unfold J_Weave_cross_63 at hV
    refine x_iload_n X dX6_cross_63 rfl (lv_at hl 4 rfl) ?_
    refine x_iconst X dX6_cross_64 ?_
    have hJ74 : ∀ (y2_9 : Int) (σ10 : St) (H : Heap) (locs : List Loc) (ls : Array Slot), J_Weave_cross_74 o a1 a2 Q y1_7 y2_9 σ10 → Wx vwCl G LX ad s H locs σ10 → lv_has ls 5 [(0, .ref (ad o)), (1, iV a1), (2, iV a2)] → W p l e R s m args below meth c H locs 0 0 QQ (F0 m 74 ls [iV y2_9, iV y1_7, .ref (ad o)]) := by
      intro y2_9 σ10 H locs ls hV hw hl
      unfold J_Weave_cross_74 at hV
      refine x_cvv X hw [iV y1_7, iV y2_9] [] (c_Weave_pass l G ad hI o ho σ10 y1_7 y2_9 hV) (cwV 2 X.2.2.2.2 gX6_cross_X6_pass rfl rfl rfl hd_Weave_pass ⟨x_fr hR.1 rfl, x_fr hR.2 rfl⟩) (lfWeave ho) cX6 rfl hl.1 rfl (Nat.le_of_ble_eq_true rfl) dX6_cross_74 ⟨Nat.zero_le _, Nat.zero_le _⟩ (fun σ11 H locs hV hw => ?_)
      refine x_aload_n X dX6_cross_77 rfl (lv_at hl 0 rfl) ?_
      refine x_getr X hw (lfWeave ho) cX6 8 (by decide) rfl n_Weave_cross_1 n_Weave_cross_3 dX6_cross_78 ?_
      refine x_iload_n X dX6_cross_81 rfl (lv_at hl 1 rfl) ?_
      refine x_iload_n X dX6_cross_82 rfl (lv_at hl 2 rfl) ?_
      refine x_cvv X hw [iV a1, iV a2] [] (c_Heap_add l G ad hI (o + 9) (hpWv ho) σ11 a1 a2 hV) (cwV 2 X.2.2.2.2 gX6_cross_X1_add rfl rfl rfl hd_Heap_add ⟨x_fr hR.1 rfl, x_fr hR.2 rfl⟩) (lfWeave9 ho) cX1 rfl hl.1 rfl (Nat.le_of_ble_eq_true rfl) dX6_cross_83 ⟨Nat.zero_le _, Nat.zero_le _⟩ (fun σ12 H locs hV hw => ?_)
      refine x_aload_n X dX6_cross_86 rfl (lv_at hl 0 rfl) ?_
      refine x_dup X dX6_cross_87 rfl ?_
      refine x_geti X hw (lfWeave ho) cX6 9 (by decide) rfl n_Weave_cross_1 n_Weave_cross_4 dX6_cross_88 ?_
      refine x_iconst X dX6_cross_91 ?_
      refine x_iadd X dX6_cross_92 ?_
      refine x_puti X hw (lfWeave ho) cX6 9 (by decide) rfl n_Weave_cross_1 n_Weave_cross_4 tyX6 tyX6_ok nmX6 rfl rfl rfl dX6_cross_93 (fun H locs σ13 hs hw => ?_)
      replace hV := hV σ13 hs
      exact hret σ13 H locs ls 96 hV hw dX6_cross_96
    refine x_icmp_ne X rfl k32_1 73 dX6_cross_65 (by decide) (fun hc => ?_) (fun hc => ?_)
    · replace hV := hV.1 hc
      refine x_iload_n X dX6_cross_73 rfl (lv_at hl 1 rfl) ?_
      exact hJ74 x3_1 σ8 H locs ls hV hw (lv_sub hl [2, 3, 4] rfl)
    · replace hV := hV.2 hc
      refine x_iload X dX6_cross_68 (lv_at hl 0 rfl) ?_
      refine x_goto X 74 dX6_cross_70 (by decide) ?_
      exact hJ74 x4_2 σ8 H locs ls hV hw (lv_sub hl [2, 3, 4] rfl)
  refine x_icmp_ne X rfl k32_1 61 dX6_cross_54 (by decide) (fun hc => ?_) (fun hc => ?_)
  · replace hV := hV.1 hc
    refine x_iload X dX6_cross_61 (lv_at hl 0 rfl) ?_
    exact hJ63 x4_2 σ6 H locs ls hV hw hl
  · replace hV := hV.2 hc
    refine x_iload_n X dX6_cross_57 rfl (lv_at hl 1 rfl) ?_
    refine x_goto X 63 dX6_cross_58 (by decide) ?_
    exact hJ63 x3_1 σ6 H locs ls hV hw hl

theorem n_Weave_make_0 : Cond.fieldLink RX6 59 "LacePillow$Plan" "lengths" "[I" ∈ wsX6_make := by decide +kernel
theorem n_Weave_make_1 : ∀ w ∈ wsX20, w ∈ wsX6_make := by decide +kernel
theorem n_Weave_make_2 : Cond.fieldLink RX6 64 "LacePillow$Plan" "letters" "[I" ∈ wsX6_make := by decide +kernel
theorem n_Weave_make_3 : Cond.fieldLink RX6 18 "LacePillow$Weave" "used" "[I" ∈ wsX6_make := by decide +kernel
theorem n_Weave_make_4 : ∀ w ∈ wsX60, w ∈ wsX6_make := by decide +kernel
theorem n_Weave_make_5 : Cond.fieldLink RX6 9 "LacePillow$Weave" "threads" "[I" ∈ wsX6_make := by decide +kernel
set_option maxHeartbeats 4000000 in
set_option maxRecDepth 100000 in
theorem c_Weave_make (l : Launch) (G : GT) (ad : Nat → Nat) (hI : Inj LX ad) (o : Nat) (ho : isWeave o) (σ : St) (a1 : Int) (a2 : Int) {Q : St → Prop} (hV : V_Weave_make o σ a1 a2 Q) : Met l yX6_make wsX6_make (rmx 3 79) (Pq vwCl G LX ad σ [.ref (ad o), .ref (ad 1), iV a1, iV a2]) (Qv vwCl G LX ad Q) 0 0 (Ax LX ad) := by
  unfold V_Weave_make at hV
  refine x_metv (own := RX6) (by decide) rfl rfl (Nat.le_of_ble_eq_true rfl) hI ?_
  intro p e s m args below meth c R QQ X hR hret ls hl hw
  replace hl : lv_has ls 7 [(0, .ref (ad o)), (1, .ref (ad 1)), (2, iV a1), (3, iV a2)] := hl
  obtain ⟨H, hH⟩ : ∃ z, z = s.heap := ⟨_, rfl⟩
  obtain ⟨locs, hlo⟩ : ∃ z : List Loc, z = [] := ⟨_, rfl⟩
  rw [← hH, ← hlo]
  replace hw : Wx vwCl G LX ad s H locs σ := by rw [hH, hlo]; exact hw
  clear hH hlo
  refine x_iconst X dX6_make_0 ?_
  refine x_iload_n X dX6_make_1 rfl (lv_at hl 3 rfl) ?_
  refine x_imul X dX6_make_2 ?_
  refine x_bi (fun x4_1 ex4_1 => ?_)
  replace hV := hV x4_1 ex4_1
  clear ex4_1
  refine x_istore X [(4, iV x4_1), (0, .ref (ad o)), (1, .ref (ad 1)), (2, iV a1), (3, iV a2)] dX6_make_3 hl (by decide) rfl (fun ls hl => ?_)
  refine WL1.use (Gl := fun x4_2 σ3 => ∀ (H : Heap) (locs : List Loc) (ls : Array Slot), Wx vwCl G LX ad s H locs σ3 → lv_has ls 7 [(4, iV x4_2), (0, .ref (ad o)), (1, .ref (ad 1)), (2, iV a1), (3, iV a2)] → W p l e R s m args below meth c H locs 0 0 QQ (F0 m 5 ls [])) ?_ hV H locs ls hw hl
  clear hV hw hl H locs ls
  intro bk4 x4_2 σ3 hbk4 hV H locs ls hw hl
  refine x_iload X dX6_make_5 (lv_at hl 0 rfl) ?_
  refine x_iconst X dX6_make_7 ?_
  refine x_iload_n X dX6_make_8 rfl (lv_at hl 4 rfl) ?_
  refine x_imul X dX6_make_9 ?_
  refine x_iconst X dX6_make_10 ?_
  refine x_iadd X dX6_make_11 ?_
  refine x_icmp_ge X rfl rfl 37 dX6_make_12 (by decide) (fun hc => ?_) (fun hc => ?_)
  · replace hV := hV.1 hc
    refine x_iconst X dX6_make_37 ?_
    refine x_istore X [(4, iV 0), (0, .ref (ad o)), (1, .ref (ad 1)), (2, iV a1), (3, iV a2)] dX6_make_38 hl (by decide) rfl (fun ls hl => ?_)
    refine WL1.use (Gl := fun x4_5 σ6 => ∀ (H : Heap) (locs : List Loc) (ls : Array Slot), Wx vwCl G LX ad s H locs σ6 → lv_has ls 7 [(4, iV x4_5), (0, .ref (ad o)), (1, .ref (ad 1)), (2, iV a1), (3, iV a2)] → W p l e R s m args below meth c H locs 0 0 QQ (F0 m 40 ls [])) ?_ hV H locs ls hw hl
    clear hV hw hl H locs ls
    intro bk7 x4_5 σ6 hbk7 hV H locs ls hw hl
    refine x_iload X dX6_make_40 (lv_at hl 0 rfl) ?_
    refine x_aload_n X dX6_make_42 rfl (lv_at hl 2 rfl) ?_
    refine x_getr X hw lx1 cX2 3 (by decide) rfl n_Weave_make_1 n_Weave_make_0 dX6_make_43 ?_
    refine x_iload_n X dX6_make_46 rfl (lv_at hl 3 rfl) ?_
    obtain ⟨hi, hV⟩ := hV
    refine x_iald X hw lx4 rfl rfl hi dX6_make_47 ?_
    refine x_icmp_ge X rfl rfl 140 dX6_make_48 (by decide) (fun hc => ?_) (fun hc => ?_)
    · replace hV := hV.1 hc
      exact hret σ6 H locs ls 140 hV hw dX6_make_140
    · replace hV := hV.2 hc
      refine x_aload_n X dX6_make_51 rfl (lv_at hl 2 rfl) ?_
      refine x_getr X hw lx1 cX2 2 (by decide) rfl n_Weave_make_1 n_Weave_make_2 dX6_make_52 ?_
      refine x_iload_n X dX6_make_55 rfl (lv_at hl 3 rfl) ?_
      refine x_bipush X dX6_make_56 (by decide) ?_
      refine x_imul X dX6_make_58 ?_
      refine x_iload X dX6_make_59 (lv_at hl 0 rfl) ?_
      refine x_iadd X dX6_make_61 ?_
      obtain ⟨hi, hV⟩ := hV
      refine x_iald X hw lx3 rfl rfl hi dX6_make_62 ?_
      refine x_bi (fun x5_8 ex5_8 => ?_)
      replace hV := hV x5_8 ex5_8
      clear ex5_8
      refine x_istore X [(5, iV x5_8), (4, iV x4_5), (0, .ref (ad o)), (1, .ref (ad 1)), (2, iV a1), (3, iV a2)] dX6_make_63 hl (by decide) rfl (fun ls hl => ?_)
      refine x_iload X dX6_make_65 (lv_at hl 0 rfl) ?_
      refine x_bipush X dX6_make_67 (by decide) ?_
      have hJ84 : ∀ (y0_9 : Int) (σ10 : St) (H : Heap) (locs : List Loc) (ls : Array Slot), J_Weave_make_84 o a2 x4_5 bk7 x5_8 y0_9 σ10 → Wx vwCl G LX ad s H locs σ10 → lv_has ls 7 [(5, iV x5_8), (4, iV x4_5), (0, .ref (ad o)), (1, .ref (ad 1)), (2, iV a1), (3, iV a2)] → W p l e R s m args below meth c H locs 0 0 QQ (F0 m 84 ls [iV y0_9]) := by
        intro y0_9 σ10 H locs ls hV hw hl
        unfold J_Weave_make_84 at hV
        refine x_istore X [(6, iV y0_9), (5, iV x5_8), (4, iV x4_5), (0, .ref (ad o)), (1, .ref (ad 1)), (2, iV a1), (3, iV a2)] dX6_make_84 hl (by decide) rfl (fun ls hl => ?_)
        refine x_iload X dX6_make_86 (lv_at hl 1 rfl) ?_
        refine x_bipush X dX6_make_88 (by decide) ?_
        have hJ100 : ∀ (σ11 : St) (H : Heap) (locs : List Loc) (ls : Array Slot), J_Weave_make_100 o a2 x4_5 bk7 y0_9 σ11 → Wx vwCl G LX ad s H locs σ11 → lv_has ls 7 [(6, iV y0_9), (4, iV x4_5), (0, .ref (ad o)), (1, .ref (ad 1)), (2, iV a1), (3, iV a2)] → W p l e R s m args below meth c H locs 0 0 QQ (F0 m 100 ls []) := by
          intro σ11 H locs ls hV hw hl
          unfold J_Weave_make_100 at hV
          refine x_aload_n X dX6_make_100 rfl (lv_at hl 2 rfl) ?_
          refine x_iconst X dX6_make_101 ?_
          refine x_iload_n X dX6_make_102 rfl (lv_at hl 5 rfl) ?_
          refine x_imul X dX6_make_103 ?_
          refine x_iconst X dX6_make_104 ?_
          refine x_iadd X dX6_make_105 ?_
          refine x_iload X dX6_make_106 (lv_at hl 0 rfl) ?_
          refine x_cvv X hw [iV ((2 * a2) + 1), iV y0_9] [] (c_Weave_cross l G ad hI o ho σ11 ((2 * a2) + 1) y0_9 hV) (cwV 2 X.2.2.2.2 gX6_make_X6_cross rfl rfl rfl hd_Weave_cross ⟨x_fr hR.1 rfl, x_fr hR.2 rfl⟩) (lfWeave ho) cX6 rfl hl.1 rfl (Nat.le_of_ble_eq_true rfl) dX6_make_108 ⟨Nat.zero_le _, Nat.zero_le _⟩ (fun σ12 H locs hV hw => ?_)
          refine x_goto X 134 dX6_make_111 (by decide) ?_
          refine x_iinc X (k := 1) (x4_5 + 1) [(4, iV (x4_5 + 1)), (6, iV y0_9), (0, .ref (ad o)), (1, .ref (ad 1)), (2, iV a1), (3, iV a2)] dX6_make_134 hl rfl rfl (by decide) rfl (fun ls hl => ?_)
          refine x_goto X 40 dX6_make_137 (by decide) ?_
          exact hbk7 (x4_5 + 1) σ12 hV H locs ls hw (lv_sub hl [0, 2, 3, 4, 5] rfl)
        refine x_icmp_eq X rfl k32_99 100 dX6_make_90 (by decide) (fun hc => ?_) (fun hc => ?_)
        · replace hV := hV.1 hc
          exact hJ100 σ10 H locs ls hV hw (lv_sub hl [0, 2, 3, 4, 5, 6] rfl)
        · replace hV := hV.2 hc
          refine x_iload X dX6_make_93 (lv_at hl 1 rfl) ?_
          refine x_bipush X dX6_make_95 (by decide) ?_
          refine x_icmp_ne X rfl k32_67 114 dX6_make_97 (by decide) (fun hc => ?_) (fun hc => ?_)
          · replace hV := hV.1 hc
            refine x_aload_n X dX6_make_114 rfl (lv_at hl 3 rfl) ?_
            refine x_iconst X dX6_make_115 ?_
            refine x_iload_n X dX6_make_116 rfl (lv_at hl 6 rfl) ?_
            refine x_imul X dX6_make_117 ?_
            refine x_iload X dX6_make_118 (lv_at hl 0 rfl) ?_
            refine x_cvv X hw [iV (2 * a2), iV y0_9] [] (c_Weave_cross l G ad hI o ho σ10 (2 * a2) y0_9 hV) (cwV 2 X.2.2.2.2 gX6_make_X6_cross rfl rfl rfl hd_Weave_cross ⟨x_fr hR.1 rfl, x_fr hR.2 rfl⟩) (lfWeave ho) cX6 rfl hl.1 rfl (Nat.le_of_ble_eq_true rfl) dX6_make_120 ⟨Nat.zero_le _, Nat.zero_le _⟩ (fun σ13 H locs hV hw => ?_)
            refine x_aload_n X dX6_make_123 rfl (lv_at hl 3 rfl) ?_
            refine x_iconst X dX6_make_124 ?_
            refine x_iload_n X dX6_make_125 rfl (lv_at hl 6 rfl) ?_
            refine x_imul X dX6_make_126 ?_
            refine x_iconst X dX6_make_127 ?_
            refine x_iadd X dX6_make_128 ?_
            refine x_iload X dX6_make_129 (lv_at hl 0 rfl) ?_
            refine x_cvv X hw [iV ((2 * a2) + 2), iV y0_9] [] (c_Weave_cross l G ad hI o ho σ13 ((2 * a2) + 2) y0_9 hV) (cwV 2 X.2.2.2.2 gX6_make_X6_cross rfl rfl rfl hd_Weave_cross ⟨x_fr hR.1 rfl, x_fr hR.2 rfl⟩) (lfWeave ho) cX6 rfl hl.1 rfl (Nat.le_of_ble_eq_true rfl) dX6_make_131 ⟨Nat.zero_le _, Nat.zero_le _⟩ (fun σ14 H locs hV hw => ?_)
            refine x_iinc X (k := 2) (x4_5 + 1) [(4, iV (x4_5 + 1)), (6, iV y0_9), (5, iV x5_8), (0, .ref (ad o)), (1, .ref (ad 1)), (2, iV a1), (3, iV a2)] dX6_make_134 hl rfl rfl (by decide) rfl (fun ls hl => ?_)
            refine x_goto X 40 dX6_make_137 (by decide) ?_
            exact hbk7 (x4_5 + 1) σ14 hV H locs ls hw (lv_sub hl [0, 3, 4, 5, 6] rfl)
          · replace hV := hV.2 hc
            exact hJ100 σ10 H locs ls hV hw (lv_sub hl [0, 2, 3, 4, 5, 6] rfl)
      have hJ79 : ∀ (σ15 : St) (H : Heap) (locs : List Loc) (ls : Array Slot), J_Weave_make_79 o a2 x4_5 bk7 x5_8 σ15 → Wx vwCl G LX ad s H locs σ15 → lv_has ls 7 [(5, iV x5_8), (4, iV x4_5), (0, .ref (ad o)), (1, .ref (ad 1)), (2, iV a1), (3, iV a2)] → W p l e R s m args below meth c H locs 0 0 QQ (F0 m 79 ls []) := by
        intro σ15 H locs ls hV hw hl
        unfold J_Weave_make_79 at hV
        refine x_iconst X dX6_make_79 ?_
        refine x_goto X 84 dX6_make_80 (by decide) ?_
        exact hJ84 1 σ15 H locs ls hV hw hl
      refine x_icmp_eq X rfl k32_99 79 dX6_make_69 (by decide) (fun hc => ?_) (fun hc => ?_)
      · replace hV := hV.1 hc
        exact hJ79 σ6 H locs ls hV hw hl
      · replace hV := hV.2 hc
        refine x_iload X dX6_make_72 (lv_at hl 0 rfl) ?_
        refine x_bipush X dX6_make_74 (by decide) ?_
        refine x_icmp_ne X rfl k32_84 83 dX6_make_76 (by decide) (fun hc => ?_) (fun hc => ?_)
        · replace hV := hV.1 hc
          refine x_iconst X dX6_make_83 ?_
          exact hJ84 2 σ6 H locs ls hV hw hl
        · replace hV := hV.2 hc
          exact hJ79 σ6 H locs ls hV hw hl
  · replace hV := hV.2 hc
    refine x_aload_n X dX6_make_15 rfl (lv_at hl 1 rfl) ?_
    refine x_getr X hw (lfWeave ho) cX6 2 (by decide) rfl n_Weave_make_4 n_Weave_make_3 dX6_make_16 ?_
    refine x_aload_n X dX6_make_19 rfl (lv_at hl 1 rfl) ?_
    refine x_getr X hw (lfWeave ho) cX6 0 (by decide) rfl n_Weave_make_4 n_Weave_make_5 dX6_make_20 ?_
    refine x_iload X dX6_make_23 (lv_at hl 0 rfl) ?_
    obtain ⟨hi, hV⟩ := hV
    refine x_iald X hw (lfWeave1 ho) rfl rfl hi dX6_make_25 ?_
    refine x_dup2 X dX6_make_26 rfl rfl ?_
    obtain ⟨hi, hV⟩ := hV
    refine x_iald X hw (lfWeave3 ho) rfl rfl hi dX6_make_27 ?_
    refine x_iconst X dX6_make_28 ?_
    refine x_iadd X dX6_make_29 ?_
    obtain ⟨hi, hV⟩ := hV
    refine x_iast X hw (lfWeave3 ho) rfl rfl hi dX6_make_30 (fun H locs σ16 hs hw => ?_)
    replace hV := hV σ16 hs
    refine x_iinc X (k := 0) (x4_2 + 1) [(4, iV (x4_2 + 1)), (0, .ref (ad o)), (1, .ref (ad 1)), (2, iV a1), (3, iV a2)] dX6_make_31 hl rfl rfl (by decide) rfl (fun ls hl => ?_)
    refine x_goto X 5 dX6_make_34 (by decide) ?_
    exact hbk4 (x4_2 + 1) σ16 hV H locs ls hw hl

theorem n_Weave_haveCrossed_0 : Cond.fieldLink RX6 33 "LacePillow$Weave" "passes" "[I" ∈ wsX6_haveCrossed := by decide +kernel
theorem n_Weave_haveCrossed_1 : ∀ w ∈ wsX60, w ∈ wsX6_haveCrossed := by decide +kernel
set_option maxHeartbeats 4000000 in
set_option maxRecDepth 100000 in
theorem c_Weave_haveCrossed (l : Launch) (G : GT) (ad : Nat → Nat) (hI : Inj LX ad) (o : Nat) (ho : isWeave o) (σ : St) (a1 : Int) (a2 : Int) {Q : Int → St → Prop} (hV : V_Weave_haveCrossed o σ a1 a2 Q) : Met l yX6_haveCrossed wsX6_haveCrossed (rmx 0 0) (Pq vwCl G LX ad σ [.ref (ad o), iV a1, iV a2]) (Qz vwCl G LX ad Q) 0 0 (Ax LX ad) := by
  unfold V_Weave_haveCrossed at hV
  refine x_metz (own := RX6) (by decide) rfl rfl (Nat.le_of_ble_eq_true rfl) hI ?_
  intro p e s m args below meth c R QQ X hR hret ls hl hw
  replace hl : lv_has ls 3 [(0, .ref (ad o)), (1, iV a1), (2, iV a2)] := hl
  obtain ⟨H, hH⟩ : ∃ z, z = s.heap := ⟨_, rfl⟩
  obtain ⟨locs, hlo⟩ : ∃ z : List Loc, z = [] := ⟨_, rfl⟩
  rw [← hH, ← hlo]
  replace hw : Wx vwCl G LX ad s H locs σ := by rw [hH, hlo]; exact hw
  clear hH hlo
  refine x_aload_n X dX6_haveCrossed_0 rfl (lv_at hl 0 rfl) ?_
  refine x_getr X hw (lfWeave ho) cX6 7 (by decide) rfl n_Weave_haveCrossed_1 n_Weave_haveCrossed_0 dX6_haveCrossed_1 ?_
  refine x_iload_n X dX6_haveCrossed_4 rfl (lv_at hl 1 rfl) ?_
  refine x_bipush X dX6_haveCrossed_5 (by decide) ?_
  refine x_imul X dX6_haveCrossed_7 ?_
  refine x_iload_n X dX6_haveCrossed_8 rfl (lv_at hl 2 rfl) ?_
  refine x_iadd X dX6_haveCrossed_9 ?_
  obtain ⟨hi, hV⟩ := hV
  refine x_iald X hw (lfWeave8 ho) rfl rfl hi dX6_haveCrossed_10 ?_
  refine x_aload_n X dX6_haveCrossed_11 rfl (lv_at hl 0 rfl) ?_
  refine x_getr X hw (lfWeave ho) cX6 7 (by decide) rfl n_Weave_haveCrossed_1 n_Weave_haveCrossed_0 dX6_haveCrossed_12 ?_
  refine x_iload_n X dX6_haveCrossed_15 rfl (lv_at hl 2 rfl) ?_
  refine x_bipush X dX6_haveCrossed_16 (by decide) ?_
  refine x_imul X dX6_haveCrossed_18 ?_
  refine x_iload_n X dX6_haveCrossed_19 rfl (lv_at hl 1 rfl) ?_
  refine x_iadd X dX6_haveCrossed_20 ?_
  obtain ⟨hi, hV⟩ := hV
  refine x_iald X hw (lfWeave8 ho) rfl rfl hi dX6_haveCrossed_21 ?_
  refine x_iadd X dX6_haveCrossed_22 ?_
  refine x_if_le X rfl 30 dX6_haveCrossed_23 (by decide) (fun hc => ?_) (fun hc => ?_)
  · replace hV := hV.1 hc
    refine x_iconst X dX6_haveCrossed_30 ?_
    exact hret 0 σ H locs ls 31 (by decide) hV hw dX6_haveCrossed_31
  · replace hV := hV.2 hc
    refine x_iconst X dX6_haveCrossed_26 ?_
    refine x_goto X 31 dX6_haveCrossed_27 (by decide) ?_
    exact hret 1 σ H locs ls 31 (by decide) hV hw dX6_haveCrossed_31

theorem n_Weave_leastLacking_0 : Cond.fieldLink RX6 18 "LacePillow$Weave" "used" "[I" ∈ wsX6_leastLacking := by decide +kernel
theorem n_Weave_leastLacking_1 : ∀ w ∈ wsX60, w ∈ wsX6_leastLacking := by decide +kernel
set_option maxHeartbeats 4000000 in
set_option maxRecDepth 100000 in
theorem c_Weave_leastLacking (l : Launch) (G : GT) (ad : Nat → Nat) (hI : Inj LX ad) (o : Nat) (ho : isWeave o) (σ : St) {Q : Int → St → Prop} (hV : V_Weave_leastLacking o σ Q) : Met l yX6_leastLacking wsX6_leastLacking (rmx 0 0) (Pq vwCl G LX ad σ [.ref (ad o), .ref (ad 5)]) (Qi vwCl G LX ad Q) 0 0 (Ax LX ad) := by
  unfold V_Weave_leastLacking at hV
  refine x_meti (own := RX6) (by decide) rfl rfl (Nat.le_of_ble_eq_true rfl) hI ?_
  intro p e s m args below meth c R QQ X hR hret ls hl hw
  replace hl : lv_has ls 3 [(0, .ref (ad o)), (1, .ref (ad 5))] := hl
  obtain ⟨H, hH⟩ : ∃ z, z = s.heap := ⟨_, rfl⟩
  obtain ⟨locs, hlo⟩ : ∃ z : List Loc, z = [] := ⟨_, rfl⟩
  rw [← hH, ← hlo]
  replace hw : Wx vwCl G LX ad s H locs σ := by rw [hH, hlo]; exact hw
  clear hH hlo
  refine x_iconst X dX6_leastLacking_0 ?_
  refine x_istore_n X [(2, iV 0), (0, .ref (ad o)), (1, .ref (ad 5))] dX6_leastLacking_1 rfl hl (by decide) rfl (fun ls hl => ?_)
  refine WL1.use (Gl := fun x2_1 σ2 => ∀ (H : Heap) (locs : List Loc) (ls : Array Slot), Wx vwCl G LX ad s H locs σ2 → lv_has ls 3 [(2, iV x2_1), (0, .ref (ad o)), (1, .ref (ad 5))] → W p l e R s m args below meth c H locs 0 0 QQ (F0 m 2 ls [])) ?_ hV H locs ls hw hl
  clear hV hw hl H locs ls
  intro bk3 x2_1 σ2 hbk3 hV H locs ls hw hl
  refine x_iload_n X dX6_leastLacking_2 rfl (lv_at hl 0 rfl) ?_
  refine x_bipush X dX6_leastLacking_3 (by decide) ?_
  refine x_icmp_ge X rfl k32_16 34 dX6_leastLacking_5 (by decide) (fun hc => ?_) (fun hc => ?_)
  · replace hV := hV.1 hc
    refine x_iconst X dX6_leastLacking_34 ?_
    exact hret (-1) σ2 H locs ls 35 hV hw dX6_leastLacking_35
  · replace hV := hV.2 hc
    refine x_iload_n X dX6_leastLacking_8 rfl (lv_at hl 0 rfl) ?_
    refine x_aload_n X dX6_leastLacking_9 rfl (lv_at hl 2 rfl) ?_
    refine x_alen X hw lx5 rfl dX6_leastLacking_10 ?_
    refine x_icmp_ge X rfl k32_16 34 dX6_leastLacking_11 (by decide) (fun hc => ?_) (fun hc => ?_)
    · replace hV := hV.1 hc
      refine x_iconst X dX6_leastLacking_34 ?_
      exact hret (-1) σ2 H locs ls 35 hV hw dX6_leastLacking_35
    · replace hV := hV.2 hc
      refine x_aload_n X dX6_leastLacking_14 rfl (lv_at hl 1 rfl) ?_
      refine x_getr X hw (lfWeave ho) cX6 2 (by decide) rfl n_Weave_leastLacking_1 n_Weave_leastLacking_0 dX6_leastLacking_15 ?_
      refine x_iload_n X dX6_leastLacking_18 rfl (lv_at hl 0 rfl) ?_
      obtain ⟨hi, hV⟩ := hV
      refine x_iald X hw (lfWeave3 ho) rfl rfl hi dX6_leastLacking_19 ?_
      refine x_aload_n X dX6_leastLacking_20 rfl (lv_at hl 2 rfl) ?_
      refine x_iload_n X dX6_leastLacking_21 rfl (lv_at hl 0 rfl) ?_
      obtain ⟨hi, hV⟩ := hV
      refine x_iald X hw lx5 rfl rfl hi dX6_leastLacking_22 ?_
      refine x_icmp_le X rfl rfl 28 dX6_leastLacking_23 (by decide) (fun hc => ?_) (fun hc => ?_)
      · replace hV := hV.1 hc
        refine x_iinc X (k := 0) (x2_1 + 1) [(2, iV (x2_1 + 1)), (0, .ref (ad o)), (1, .ref (ad 5))] dX6_leastLacking_28 hl rfl rfl (by decide) rfl (fun ls hl => ?_)
        refine x_goto X 2 dX6_leastLacking_31 (by decide) ?_
        exact hbk3 (x2_1 + 1) σ2 hV H locs ls hw hl
      · replace hV := hV.2 hc
        refine x_iload_n X dX6_leastLacking_26 rfl (lv_at hl 0 rfl) ?_
        exact hret x2_1 σ2 H locs ls 27 hV hw dX6_leastLacking_27

theorem n_Weave_countAtHome_0 : Cond.fieldLink RX6 15 "LacePillow$Weave" "places" "[I" ∈ wsX6_countAtHome := by decide +kernel
theorem n_Weave_countAtHome_1 : ∀ w ∈ wsX60, w ∈ wsX6_countAtHome := by decide +kernel
set_option maxHeartbeats 4000000 in
set_option maxRecDepth 100000 in
theorem c_Weave_countAtHome (l : Launch) (G : GT) (ad : Nat → Nat) (hI : Inj LX ad) (o : Nat) (ho : isWeave o) (σ : St) (a1 : Int) {Q : Int → St → Prop} (hV : V_Weave_countAtHome o σ a1 Q) : Met l yX6_countAtHome wsX6_countAtHome (rmx 0 0) (Pq vwCl G LX ad σ [.ref (ad o), iV a1]) (Qi vwCl G LX ad Q) 0 0 (Ax LX ad) := by
  unfold V_Weave_countAtHome at hV
  refine x_meti (own := RX6) (by decide) rfl rfl (Nat.le_of_ble_eq_true rfl) hI ?_
  intro p e s m args below meth c R QQ X hR hret ls hl hw
  replace hl : lv_has ls 4 [(0, .ref (ad o)), (1, iV a1)] := hl
  obtain ⟨H, hH⟩ : ∃ z, z = s.heap := ⟨_, rfl⟩
  obtain ⟨locs, hlo⟩ : ∃ z : List Loc, z = [] := ⟨_, rfl⟩
  rw [← hH, ← hlo]
  replace hw : Wx vwCl G LX ad s H locs σ := by rw [hH, hlo]; exact hw
  clear hH hlo
  refine x_iconst X dX6_countAtHome_0 ?_
  refine x_istore_n X [(2, iV 0), (0, .ref (ad o)), (1, iV a1)] dX6_countAtHome_1 rfl hl (by decide) rfl (fun ls hl => ?_)
  refine x_iconst X dX6_countAtHome_2 ?_
  refine x_istore_n X [(3, iV 0), (2, iV 0), (0, .ref (ad o)), (1, iV a1)] dX6_countAtHome_3 rfl hl (by decide) rfl (fun ls hl => ?_)
  refine WL2.use (Gl := fun x3_1 x2_2 σ3 => ∀ (H : Heap) (locs : List Loc) (ls : Array Slot), Wx vwCl G LX ad s H locs σ3 → lv_has ls 4 [(3, iV x3_1), (2, iV x2_2), (0, .ref (ad o)), (1, iV a1)] → W p l e R s m args below meth c H locs 0 0 QQ (F0 m 4 ls [])) ?_ hV H locs ls hw hl
  clear hV hw hl H locs ls
  intro bk4 x3_1 x2_2 σ3 hbk4 hV H locs ls hw hl
  refine x_iload_n X dX6_countAtHome_4 rfl (lv_at hl 0 rfl) ?_
  refine x_iload_n X dX6_countAtHome_5 rfl (lv_at hl 3 rfl) ?_
  refine x_icmp_ge X rfl rfl 34 dX6_countAtHome_6 (by decide) (fun hc => ?_) (fun hc => ?_)
  · replace hV := hV.1 hc
    refine x_iload_n X dX6_countAtHome_34 rfl (lv_at hl 1 rfl) ?_
    exact hret x2_2 σ3 H locs ls 35 hV hw dX6_countAtHome_35
  · replace hV := hV.2 hc
    refine x_iload_n X dX6_countAtHome_9 rfl (lv_at hl 0 rfl) ?_
    refine x_bipush X dX6_countAtHome_10 (by decide) ?_
    refine x_icmp_ge X rfl k32_16 34 dX6_countAtHome_12 (by decide) (fun hc => ?_) (fun hc => ?_)
    · replace hV := hV.1 hc
      refine x_iload_n X dX6_countAtHome_34 rfl (lv_at hl 1 rfl) ?_
      exact hret x2_2 σ3 H locs ls 35 hV hw dX6_countAtHome_35
    · replace hV := hV.2 hc
      refine x_aload_n X dX6_countAtHome_15 rfl (lv_at hl 2 rfl) ?_
      refine x_getr X hw (lfWeave ho) cX6 1 (by decide) rfl n_Weave_countAtHome_1 n_Weave_countAtHome_0 dX6_countAtHome_16 ?_
      refine x_iload_n X dX6_countAtHome_19 rfl (lv_at hl 0 rfl) ?_
      obtain ⟨hi, hV⟩ := hV
      refine x_iald X hw (lfWeave2 ho) rfl rfl hi dX6_countAtHome_20 ?_
      refine x_iload_n X dX6_countAtHome_21 rfl (lv_at hl 0 rfl) ?_
      refine x_icmp_ne X rfl rfl 28 dX6_countAtHome_22 (by decide) (fun hc => ?_) (fun hc => ?_)
      · replace hV := hV.1 hc
        refine x_iinc X (k := 0) (x3_1 + 1) [(3, iV (x3_1 + 1)), (2, iV x2_2), (0, .ref (ad o)), (1, iV a1)] dX6_countAtHome_28 hl rfl rfl (by decide) rfl (fun ls hl => ?_)
        refine x_goto X 4 dX6_countAtHome_31 (by decide) ?_
        exact hbk4 (x3_1 + 1) x2_2 σ3 hV H locs ls hw hl
      · replace hV := hV.2 hc
        refine x_iinc X (k := 1) (x2_2 + 1) [(2, iV (x2_2 + 1)), (3, iV x3_1), (0, .ref (ad o)), (1, iV a1)] dX6_countAtHome_25 hl rfl rfl (by decide) rfl (fun ls hl => ?_)
        refine x_iinc X (k := 1) (x3_1 + 1) [(3, iV (x3_1 + 1)), (2, iV (x2_2 + 1)), (0, .ref (ad o)), (1, iV a1)] dX6_countAtHome_28 hl rfl rfl (by decide) rfl (fun ls hl => ?_)
        refine x_goto X 4 dX6_countAtHome_31 (by decide) ?_
        exact hbk4 (x3_1 + 1) (x2_2 + 1) σ3 hV H locs ls hw hl

theorem n_Weave_turnsOf_0 : Cond.fieldLink RX6 15 "LacePillow$Weave" "places" "[I" ∈ wsX6_turnsOf := by decide +kernel
theorem n_Weave_turnsOf_1 : ∀ w ∈ wsX60, w ∈ wsX6_turnsOf := by decide +kernel
set_option maxHeartbeats 4000000 in
set_option maxRecDepth 100000 in
theorem c_Weave_turnsOf (l : Launch) (G : GT) (ad : Nat → Nat) (hI : Inj LX ad) (o : Nat) (ho : isWeave o) (σ : St) (a1 : Int) {Q : Int → St → Prop} (hV : V_Weave_turnsOf o σ a1 Q) : Met l yX6_turnsOf wsX6_turnsOf (rmx 0 0) (Pq vwCl G LX ad σ [.ref (ad o), iV a1]) (Qi vwCl G LX ad Q) 0 0 (Ax LX ad) := by
  unfold V_Weave_turnsOf at hV
  refine x_meti (own := RX6) (by decide) rfl rfl (Nat.le_of_ble_eq_true rfl) hI ?_
  intro p e s m args below meth c R QQ X hR hret ls hl hw
  replace hl : lv_has ls 4 [(0, .ref (ad o)), (1, iV a1)] := hl
  obtain ⟨H, hH⟩ : ∃ z, z = s.heap := ⟨_, rfl⟩
  obtain ⟨locs, hlo⟩ : ∃ z : List Loc, z = [] := ⟨_, rfl⟩
  rw [← hH, ← hlo]
  replace hw : Wx vwCl G LX ad s H locs σ := by rw [hH, hlo]; exact hw
  clear hH hlo
  refine x_iload_n X dX6_turnsOf_0 rfl (lv_at hl 1 rfl) ?_
  refine x_istore_n X [(2, iV a1), (0, .ref (ad o)), (1, iV a1)] dX6_turnsOf_1 rfl hl (by decide) rfl (fun ls hl => ?_)
  refine x_iconst X dX6_turnsOf_2 ?_
  refine x_istore_n X [(3, iV 1), (2, iV a1), (0, .ref (ad o)), (1, iV a1)] dX6_turnsOf_3 rfl hl (by decide) rfl (fun ls hl => ?_)
  refine WL2.use (Gl := fun x3_1 x2_2 σ3 => ∀ (H : Heap) (locs : List Loc) (ls : Array Slot), Wx vwCl G LX ad s H locs σ3 → lv_has ls 4 [(3, iV x3_1), (2, iV x2_2), (0, .ref (ad o)), (1, iV a1)] → W p l e R s m args below meth c H locs 0 0 QQ (F0 m 4 ls [])) ?_ hV H locs ls hw hl
  clear hV hw hl H locs ls
  intro bk4 x3_1 x2_2 σ3 hbk4 hV H locs ls hw hl
  refine x_iload_n X dX6_turnsOf_4 rfl (lv_at hl 0 rfl) ?_
  refine x_bipush X dX6_turnsOf_5 (by decide) ?_
  refine x_icmp_gt X rfl k32_16 30 dX6_turnsOf_7 (by decide) (fun hc => ?_) (fun hc => ?_)
  · replace hV := hV.1 hc
    refine x_bipush X dX6_turnsOf_30 (by decide) ?_
    exact hret 16 σ3 H locs ls 32 hV hw dX6_turnsOf_32
  · replace hV := hV.2 hc
    refine x_aload_n X dX6_turnsOf_10 rfl (lv_at hl 2 rfl) ?_
    refine x_getr X hw (lfWeave ho) cX6 1 (by decide) rfl n_Weave_turnsOf_1 n_Weave_turnsOf_0 dX6_turnsOf_11 ?_
    refine x_iload_n X dX6_turnsOf_14 rfl (lv_at hl 1 rfl) ?_
    obtain ⟨hi, hV⟩ := hV
    refine x_iald X hw (lfWeave2 ho) rfl rfl hi dX6_turnsOf_15 ?_
    refine x_bi (fun x2_5 ex2_5 => ?_)
    replace hV := hV x2_5 ex2_5
    clear ex2_5
    refine x_istore_n X [(2, iV x2_5), (3, iV x3_1), (0, .ref (ad o)), (1, iV a1)] dX6_turnsOf_16 rfl hl (by decide) rfl (fun ls hl => ?_)
    refine x_iload_n X dX6_turnsOf_17 rfl (lv_at hl 0 rfl) ?_
    refine x_iload_n X dX6_turnsOf_18 rfl (lv_at hl 3 rfl) ?_
    refine x_icmp_ne X rfl rfl 24 dX6_turnsOf_19 (by decide) (fun hc => ?_) (fun hc => ?_)
    · replace hV := hV.1 hc
      refine x_iinc X (k := 1) (x3_1 + 1) [(3, iV (x3_1 + 1)), (2, iV x2_5), (0, .ref (ad o)), (1, iV a1)] dX6_turnsOf_24 hl rfl rfl (by decide) rfl (fun ls hl => ?_)
      refine x_goto X 4 dX6_turnsOf_27 (by decide) ?_
      exact hbk4 (x3_1 + 1) x2_5 σ3 hV H locs ls hw hl
    · replace hV := hV.2 hc
      refine x_iload_n X dX6_turnsOf_22 rfl (lv_at hl 1 rfl) ?_
      exact hret x3_1 σ3 H locs ls 23 hV hw dX6_turnsOf_23

set_option maxHeartbeats 4000000 in
set_option maxRecDepth 100000 in
theorem c_Weave_leastCommonMultiple (l : Launch) (G : GT) (ad : Nat → Nat) (hI : Inj LX ad) (σ : St) (a1 : Int) (a2 : Int) {Q : Int → St → Prop} (hV : V_Weave_leastCommonMultiple σ a1 a2 Q) : Met l yX6_leastCommonMultiple wsX6_leastCommonMultiple (rmx 0 0) (Pq vwCl G LX ad σ [lV a1, iV a2]) (Ql vwCl G LX ad Q) 0 0 (Ax LX ad) := by
  unfold V_Weave_leastCommonMultiple at hV
  refine x_metl (own := RX6) (by decide) rfl rfl (Nat.le_of_ble_eq_true rfl) hI ?_
  intro p e s m args below meth c R QQ X hR hret ls hl hw
  replace hl : lv_has ls 4 [(0, lV a1), (2, iV a2)] := hl
  obtain ⟨H, hH⟩ : ∃ z, z = s.heap := ⟨_, rfl⟩
  obtain ⟨locs, hlo⟩ : ∃ z : List Loc, z = [] := ⟨_, rfl⟩
  rw [← hH, ← hlo]
  replace hw : Wx vwCl G LX ad s H locs σ := by rw [hH, hlo]; exact hw
  clear hH hlo
  refine x_iconst X dX6_leastCommonMultiple_0 ?_
  refine x_istore_n X [(3, iV 1), (0, lV a1), (2, iV a2)] dX6_leastCommonMultiple_1 rfl hl (by decide) rfl (fun ls hl => ?_)
  refine WL1.use (Gl := fun x3_1 σ2 => ∀ (H : Heap) (locs : List Loc) (ls : Array Slot), Wx vwCl G LX ad s H locs σ2 → lv_has ls 4 [(3, iV x3_1), (0, lV a1), (2, iV a2)] → W p l e R s m args below meth c H locs 0 0 QQ (F0 m 2 ls [])) ?_ hV H locs ls hw hl
  clear hV hw hl H locs ls
  intro bk3 x3_1 σ2 hbk3 hV H locs ls hw hl
  refine x_iload_n X dX6_leastCommonMultiple_2 rfl (lv_at hl 0 rfl) ?_
  refine x_iload_n X dX6_leastCommonMultiple_3 rfl (lv_at hl 2 rfl) ?_
  refine x_icmp_ge X rfl rfl 30 dX6_leastCommonMultiple_4 (by decide) (fun hc => ?_) (fun hc => ?_)
  · replace hV := hV.1 hc
    refine x_lload_n X dX6_leastCommonMultiple_30 rfl (lv_at hl 1 rfl) ?_
    refine x_iload_n X dX6_leastCommonMultiple_31 rfl (lv_at hl 2 rfl) ?_
    refine x_i2l X dX6_leastCommonMultiple_32 ?_
    refine x_lmul X dX6_leastCommonMultiple_33 ?_
    exact hret (a1 * (i32 a2)) σ2 H locs ls 34 hV hw dX6_leastCommonMultiple_34
  · replace hV := hV.2 hc
    refine x_lload_n X dX6_leastCommonMultiple_7 rfl (lv_at hl 1 rfl) ?_
    refine x_iload_n X dX6_leastCommonMultiple_8 rfl (lv_at hl 0 rfl) ?_
    refine x_i2l X dX6_leastCommonMultiple_9 ?_
    refine x_lmul X dX6_leastCommonMultiple_10 ?_
    refine x_iload_n X dX6_leastCommonMultiple_11 rfl (lv_at hl 2 rfl) ?_
    refine x_i2l X dX6_leastCommonMultiple_12 ?_
    obtain ⟨hn, hV⟩ := hV
    refine x_lrem X dX6_leastCommonMultiple_13 hn ?_
    refine x_lconst X 0 dX6_leastCommonMultiple_14 rfl ?_
    refine x_lcmp_ne X rfl k64_0 24 dX6_leastCommonMultiple_15 dX6_leastCommonMultiple_16 (by decide) (fun hc => ?_) (fun hc => ?_)
    · replace hV := hV.1 hc
      refine x_iinc X (k := 0) (x3_1 + 1) [(3, iV (x3_1 + 1)), (0, lV a1), (2, iV a2)] dX6_leastCommonMultiple_24 hl rfl rfl (by decide) rfl (fun ls hl => ?_)
      refine x_goto X 2 dX6_leastCommonMultiple_27 (by decide) ?_
      exact hbk3 (x3_1 + 1) σ2 hV H locs ls hw hl
    · replace hV := hV.2 hc
      refine x_lload_n X dX6_leastCommonMultiple_19 rfl (lv_at hl 1 rfl) ?_
      refine x_iload_n X dX6_leastCommonMultiple_20 rfl (lv_at hl 0 rfl) ?_
      refine x_i2l X dX6_leastCommonMultiple_21 ?_
      refine x_lmul X dX6_leastCommonMultiple_22 ?_
      exact hret (a1 * (i32 x3_1)) σ2 H locs ls 23 hV hw dX6_leastCommonMultiple_23

set_option maxHeartbeats 4000000 in
set_option maxRecDepth 100000 in
theorem c_Weave_commonTurns (l : Launch) (G : GT) (ad : Nat → Nat) (hI : Inj LX ad) (o : Nat) (ho : isWeave o) (σ : St) {Q : Int → St → Prop} (hV : V_Weave_commonTurns o σ Q) : Met l yX6_commonTurns wsX6_commonTurns (rmx 1 23) (Pq vwCl G LX ad σ [.ref (ad o)]) (Ql vwCl G LX ad Q) 0 0 (Ax LX ad) := by
  unfold V_Weave_commonTurns at hV
  refine x_metl (own := RX6) (by decide) rfl rfl (Nat.le_of_ble_eq_true rfl) hI ?_
  intro p e s m args below meth c R QQ X hR hret ls hl hw
  replace hl : lv_has ls 4 [(0, .ref (ad o))] := hl
  obtain ⟨H, hH⟩ : ∃ z, z = s.heap := ⟨_, rfl⟩
  obtain ⟨locs, hlo⟩ : ∃ z : List Loc, z = [] := ⟨_, rfl⟩
  rw [← hH, ← hlo]
  replace hw : Wx vwCl G LX ad s H locs σ := by rw [hH, hlo]; exact hw
  clear hH hlo
  refine x_lconst X 1 dX6_commonTurns_0 rfl ?_
  refine x_lstore_n X [(1, lV 1), (0, .ref (ad o))] dX6_commonTurns_1 rfl hl (by decide) rfl (fun ls hl => ?_)
  refine x_iconst X dX6_commonTurns_2 ?_
  refine x_istore_n X [(3, iV 0), (1, lV 1), (0, .ref (ad o))] dX6_commonTurns_3 rfl hl (by decide) rfl (fun ls hl => ?_)
  refine WL2.use (Gl := fun x3_1 x1_2 σ3 => ∀ (H : Heap) (locs : List Loc) (ls : Array Slot), Wx vwCl G LX ad s H locs σ3 → lv_has ls 4 [(3, iV x3_1), (1, lV x1_2), (0, .ref (ad o))] → W p l e R s m args below meth c H locs 0 0 QQ (F0 m 4 ls [])) ?_ hV H locs ls hw hl
  clear hV hw hl H locs ls
  intro bk4 x3_1 x1_2 σ3 hbk4 hV H locs ls hw hl
  refine x_iload_n X dX6_commonTurns_4 rfl (lv_at hl 0 rfl) ?_
  refine x_bipush X dX6_commonTurns_5 (by decide) ?_
  refine x_icmp_ge X rfl k32_16 26 dX6_commonTurns_7 (by decide) (fun hc => ?_) (fun hc => ?_)
  · replace hV := hV.1 hc
    refine x_lload_n X dX6_commonTurns_26 rfl (lv_at hl 1 rfl) ?_
    exact hret x1_2 σ3 H locs ls 27 hV hw dX6_commonTurns_27
  · replace hV := hV.2 hc
    refine x_lload_n X dX6_commonTurns_10 rfl (lv_at hl 1 rfl) ?_
    refine x_aload_n X dX6_commonTurns_11 rfl (lv_at hl 2 rfl) ?_
    refine x_iload_n X dX6_commonTurns_12 rfl (lv_at hl 0 rfl) ?_
    refine x_cvi X hw [iV x3_1] [lV x1_2] (c_Weave_turnsOf l G ad hI o ho σ3 x3_1 hV) (cwV 1 X.2.2.2.2 gX6_commonTurns_X6_turnsOf rfl rfl rfl hd_Weave_turnsOf ⟨x_fr hR.1 rfl, x_fr hR.2 rfl⟩) (lfWeave ho) cX6 rfl hl.1 rfl (Nat.le_of_ble_eq_true rfl) dX6_commonTurns_13 ⟨Nat.zero_le _, Nat.zero_le _⟩ (fun r6 σ5 H locs hV hw => ?_)
    refine x_csl X hw [lV x1_2, iV r6] [] (c_Weave_leastCommonMultiple l G ad hI σ5 x1_2 r6 hV) (va_cwS 2 X.2.2.2.2 gX6_commonTurns_X6_leastCommonMultiple rfl rfl rfl hd_Weave_leastCommonMultiple ⟨x_fr hR.1 rfl, x_fr hR.2 rfl⟩) rfl hl.1 rfl (Nat.le_of_ble_eq_true rfl) dX6_commonTurns_16 ⟨Nat.zero_le _, Nat.zero_le _⟩ (fun r8 σ7 H locs hV hw => ?_)
    refine x_lstore_n X [(1, lV r8), (3, iV x3_1), (0, .ref (ad o))] dX6_commonTurns_19 rfl hl (by decide) rfl (fun ls hl => ?_)
    refine x_iinc X (k := 1) (x3_1 + 1) [(3, iV (x3_1 + 1)), (1, lV r8), (0, .ref (ad o))] dX6_commonTurns_20 hl rfl rfl (by decide) rfl (fun ls hl => ?_)
    refine x_goto X 4 dX6_commonTurns_23 (by decide) ?_
    exact hbk4 (x3_1 + 1) r8 σ7 hV H locs ls hw hl

theorem n_P_regard_0 : Cond.fieldLink RX7 33 "LacePillow" "ground" "LLacePillow$Ground;" ∈ wsX7_regard := by decide +kernel
theorem n_P_regard_1 : ∀ w ∈ wsX70, w ∈ wsX7_regard := by decide +kernel
theorem n_P_regard_2 : Cond.fieldLink RX7 12 "LacePillow" "plan" "LLacePillow$Plan;" ∈ wsX7_regard := by decide +kernel
theorem n_P_regard_3 : Cond.fieldLink RX7 40 "LacePillow" "ways" "LLacePillow$Ways;" ∈ wsX7_regard := by decide +kernel
theorem n_P_regard_4 : Cond.fieldLink RX7 352 "LacePillow$Ways" "known" "Z" ∈ wsX7_regard := by decide +kernel
theorem n_P_regard_5 : ∀ w ∈ wsX50, w ∈ wsX7_regard := by decide +kernel
theorem n_P_regard_6 : Cond.fieldLink RX7 54 "LacePillow" "thoughtStitches" "I" ∈ wsX7_regard := by decide +kernel
set_option maxHeartbeats 4000000 in
set_option maxRecDepth 100000 in
theorem c_P_regard (l : Launch) (G : GT) (ad : Nat → Nat) (hI : Inj LX ad) (σ : St) {Q : St → Prop} (hV : V_P_regard σ Q) : Met l yX7_regard wsX7_regard (rmx 3 79) (Pq vwCl G LX ad σ [.ref (ad 0)]) (Qv vwCl G LX ad Q) 0 0 (Ax LX ad) := by
  unfold V_P_regard at hV
  refine x_metv (own := RX7) (by decide) rfl rfl (Nat.le_of_ble_eq_true rfl) hI ?_
  intro p e s m args below meth c R QQ X hR hret ls hl hw
  replace hl : lv_has ls 1 [(0, .ref (ad 0))] := hl
  obtain ⟨H, hH⟩ : ∃ z, z = s.heap := ⟨_, rfl⟩
  obtain ⟨locs, hlo⟩ : ∃ z : List Loc, z = [] := ⟨_, rfl⟩
  rw [← hH, ← hlo]
  replace hw : Wx vwCl G LX ad s H locs σ := by rw [hH, hlo]; exact hw
  clear hH hlo
  refine x_aload_n X dX7_regard_0 rfl (lv_at hl 0 rfl) ?_
  refine x_getr X hw lx0 cX7 4 (by decide) rfl n_P_regard_1 n_P_regard_0 dX7_regard_1 ?_
  refine x_aload_n X dX7_regard_4 rfl (lv_at hl 0 rfl) ?_
  refine x_getr X hw lx0 cX7 0 (by decide) rfl n_P_regard_1 n_P_regard_2 dX7_regard_5 ?_
  refine x_cvv X hw [.ref (ad 1)] [] (c_Ground_gather l G ad hI σ hV) (cwV 1 X.2.2.2.2 gX7_regard_X0_gather rfl rfl rfl hd_Ground_gather ⟨x_fr hR.1 rfl, x_fr hR.2 rfl⟩) lx16 cX0 rfl hl.1 rfl (Nat.le_of_ble_eq_true rfl) dX7_regard_8 ⟨Nat.zero_le _, Nat.zero_le _⟩ (fun σ1 H locs hV hw => ?_)
  refine x_aload_n X dX7_regard_11 rfl (lv_at hl 0 rfl) ?_
  refine x_getr X hw lx0 cX7 5 (by decide) rfl n_P_regard_1 n_P_regard_3 dX7_regard_12 ?_
  refine x_iconst X dX7_regard_15 ?_
  refine x_puti X hw lx23 cX5 0 (by decide) rfl n_P_regard_5 n_P_regard_4 tyX5 tyX5_ok nmX5 rfl rfl rfl dX7_regard_16 (fun H locs σ2 hs hw => ?_)
  replace hV := hV σ2 hs
  refine x_aload_n X dX7_regard_19 rfl (lv_at hl 0 rfl) ?_
  refine x_iconst X dX7_regard_20 ?_
  refine x_puti X hw lx0 cX7 8 (by decide) rfl n_P_regard_1 n_P_regard_6 tyX7 tyX7_ok nmX7 rfl rfl rfl dX7_regard_21 (fun H locs σ3 hs hw => ?_)
  replace hV := hV σ3 hs
  exact hret σ3 H locs ls 24 hV hw dX7_regard_24

theorem n_P_beginAnew_0 : Cond.fieldLink RX7 12 "LacePillow" "plan" "LLacePillow$Plan;" ∈ wsX7_beginAnew := by decide +kernel
theorem n_P_beginAnew_1 : ∀ w ∈ wsX70, w ∈ wsX7_beginAnew := by decide +kernel
theorem n_P_beginAnew_2 : Cond.fieldLink RX7 169 "LacePillow$Plan" "worked" "I" ∈ wsX7_beginAnew := by decide +kernel
theorem n_P_beginAnew_3 : ∀ w ∈ wsX20, w ∈ wsX7_beginAnew := by decide +kernel
theorem n_P_beginAnew_4 : Cond.fieldLink RX7 47 "LacePillow" "done" "LLacePillow$Weave;" ∈ wsX7_beginAnew := by decide +kernel
theorem n_P_beginAnew_5 : Cond.fieldLink RX7 58 "LacePillow" "workedBits" "J" ∈ wsX7_beginAnew := by decide +kernel
set_option maxHeartbeats 4000000 in
set_option maxRecDepth 100000 in
theorem c_P_beginAnew (l : Launch) (G : GT) (ad : Nat → Nat) (hI : Inj LX ad) (σ : St) {Q : St → Prop} (hV : V_P_beginAnew σ Q) : Met l yX7_beginAnew wsX7_beginAnew (rmx 4 99) (Pq vwCl G LX ad σ [.ref (ad 0)]) (Qv vwCl G LX ad Q) 0 0 (Ax LX ad) := by
  unfold V_P_beginAnew at hV
  refine x_metv (own := RX7) (by decide) rfl rfl (Nat.le_of_ble_eq_true rfl) hI ?_
  intro p e s m args below meth c R QQ X hR hret ls hl hw
  replace hl : lv_has ls 1 [(0, .ref (ad 0))] := hl
  obtain ⟨H, hH⟩ : ∃ z, z = s.heap := ⟨_, rfl⟩
  obtain ⟨locs, hlo⟩ : ∃ z : List Loc, z = [] := ⟨_, rfl⟩
  rw [← hH, ← hlo]
  replace hw : Wx vwCl G LX ad s H locs σ := by rw [hH, hlo]; exact hw
  clear hH hlo
  refine x_aload_n X dX7_beginAnew_0 rfl (lv_at hl 0 rfl) ?_
  refine x_getr X hw lx0 cX7 0 (by decide) rfl n_P_beginAnew_1 n_P_beginAnew_0 dX7_beginAnew_1 ?_
  refine x_iconst X dX7_beginAnew_4 ?_
  refine x_puti X hw lx1 cX2 6 (by decide) rfl n_P_beginAnew_3 n_P_beginAnew_2 tyX2 tyX2_ok nmX2 rfl rfl rfl dX7_beginAnew_5 (fun H locs σ1 hs hw => ?_)
  replace hV := hV σ1 hs
  refine x_aload_n X dX7_beginAnew_8 rfl (lv_at hl 0 rfl) ?_
  refine x_getr X hw lx0 cX7 6 (by decide) rfl n_P_beginAnew_1 n_P_beginAnew_4 dX7_beginAnew_9 ?_
  refine x_cvv X hw [] [] (c_Weave_clear l G ad hI 29 isWeave29 σ1 hV) (cwV 0 X.2.2.2.2 gX7_beginAnew_X6_clear rfl rfl rfl hd_Weave_clear ⟨x_fr hR.1 rfl, x_fr hR.2 rfl⟩) lx29 cX6 rfl hl.1 rfl (Nat.le_of_ble_eq_true rfl) dX7_beginAnew_12 ⟨Nat.zero_le _, Nat.zero_le _⟩ (fun σ2 H locs hV hw => ?_)
  refine x_aload_n X dX7_beginAnew_15 rfl (lv_at hl 0 rfl) ?_
  refine x_lconst X 0 dX7_beginAnew_16 rfl ?_
  refine x_putl X hw lx0 cX7 9 (by decide) rfl n_P_beginAnew_1 n_P_beginAnew_5 tyX7 tyX7_ok nmX7 rfl rfl rfl dX7_beginAnew_17 (fun H locs σ3 hs hw => ?_)
  replace hV := hV σ3 hs
  refine x_aload_n X dX7_beginAnew_20 rfl (lv_at hl 0 rfl) ?_
  refine x_cvv X hw [] [] (c_P_regard l G ad hI σ3 hV) (cwV 0 X.2.2.2.2 gX7_beginAnew_X7_regard rfl rfl rfl hd_P_regard ⟨x_fr hR.1 rfl, x_fr hR.2 rfl⟩) lx0 cX7 rfl hl.1 rfl (Nat.le_of_ble_eq_true rfl) dX7_beginAnew_21 ⟨Nat.zero_le _, Nat.zero_le _⟩ (fun σ4 H locs hV hw => ?_)
  exact hret σ4 H locs ls 24 hV hw dX7_beginAnew_24

theorem n_P_fail_0 : Cond.fieldLink RX7 75 "LacePillow" "errors" "[I" ∈ wsX7_fail := by decide +kernel
theorem n_P_fail_1 : ∀ w ∈ wsX70, w ∈ wsX7_fail := by decide +kernel
theorem n_P_fail_2 : Cond.constant RX7 343 (-1000000000) ∈ wsX7_fail := by decide +kernel
set_option maxHeartbeats 4000000 in
set_option maxRecDepth 100000 in
theorem c_P_fail (l : Launch) (G : GT) (ad : Nat → Nat) (hI : Inj LX ad) (σ : St) (a1 : Int) {Q : Int → St → Prop} (hV : V_P_fail σ a1 Q) : Met l yX7_fail wsX7_fail (rmx 0 0) (Pq vwCl G LX ad σ [.ref (ad 0), iV a1]) (Qi vwCl G LX ad Q) 0 0 (Ax LX ad) := by
  unfold V_P_fail at hV
  refine x_meti (own := RX7) (by decide) rfl rfl (Nat.le_of_ble_eq_true rfl) hI ?_
  intro p e s m args below meth c R QQ X hR hret ls hl hw
  replace hl : lv_has ls 2 [(0, .ref (ad 0)), (1, iV a1)] := hl
  obtain ⟨H, hH⟩ : ∃ z, z = s.heap := ⟨_, rfl⟩
  obtain ⟨locs, hlo⟩ : ∃ z : List Loc, z = [] := ⟨_, rfl⟩
  rw [← hH, ← hlo]
  replace hw : Wx vwCl G LX ad s H locs σ := by rw [hH, hlo]; exact hw
  clear hH hlo
  refine x_aload_n X dX7_fail_0 rfl (lv_at hl 0 rfl) ?_
  refine x_getr X hw lx0 cX7 12 (by decide) rfl n_P_fail_1 n_P_fail_0 dX7_fail_1 ?_
  refine x_iload_n X dX7_fail_4 rfl (lv_at hl 1 rfl) ?_
  refine x_dup2 X dX7_fail_5 rfl rfl ?_
  obtain ⟨hi, hV⟩ := hV
  refine x_iald X hw lx56 rfl rfl hi dX7_fail_6 ?_
  refine x_iconst X dX7_fail_7 ?_
  refine x_iadd X dX7_fail_8 ?_
  obtain ⟨hi, hV⟩ := hV
  refine x_iast X hw lx56 rfl rfl hi dX7_fail_9 (fun H locs σ1 hs hw => ?_)
  replace hV := hV σ1 hs
  refine x_ldcw X (-1000000000) n_P_fail_2 (by decide) dX7_fail_10 ?_
  refine x_iload_n X dX7_fail_13 rfl (lv_at hl 1 rfl) ?_
  refine x_isub X dX7_fail_14 ?_
  exact hret ((-1000000000) - a1) σ1 H locs ls 15 hV hw dX7_fail_15

theorem n_P_pairs_0 : Cond.fieldLink RX7 12 "LacePillow" "plan" "LLacePillow$Plan;" ∈ wsX7_pairs := by decide +kernel
theorem n_P_pairs_1 : ∀ w ∈ wsX70, w ∈ wsX7_pairs := by decide +kernel
theorem n_P_pairs_2 : Cond.fieldLink RX7 84 "LacePillow$Plan" "pairs" "I" ∈ wsX7_pairs := by decide +kernel
theorem n_P_pairs_3 : ∀ w ∈ wsX20, w ∈ wsX7_pairs := by decide +kernel
theorem n_P_pairs_4 : Cond.fieldLink RX7 87 "LacePillow$Plan" "cells" "[I" ∈ wsX7_pairs := by decide +kernel
set_option maxHeartbeats 4000000 in
set_option maxRecDepth 100000 in
theorem c_P_pairs (l : Launch) (G : GT) (ad : Nat → Nat) (hI : Inj LX ad) (σ : St) (a1 : Int) {Q : Int → St → Prop} (hV : V_P_pairs σ a1 Q) : Met l yX7_pairs wsX7_pairs (rmx 5 119) (Pq vwCl G LX ad σ [.ref (ad 0), iV a1]) (Qi vwCl G LX ad Q) 0 0 (Ax LX ad) := by
  unfold V_P_pairs at hV
  refine x_meti (own := RX7) (by decide) rfl rfl (Nat.le_of_ble_eq_true rfl) hI ?_
  intro p e s m args below meth c R QQ X hR hret ls hl hw
  replace hl : lv_has ls 3 [(0, .ref (ad 0)), (1, iV a1)] := hl
  obtain ⟨H, hH⟩ : ∃ z, z = s.heap := ⟨_, rfl⟩
  obtain ⟨locs, hlo⟩ : ∃ z : List Loc, z = [] := ⟨_, rfl⟩
  rw [← hH, ← hlo]
  replace hw : Wx vwCl G LX ad s H locs σ := by rw [hH, hlo]; exact hw
  clear hH hlo
  refine x_iload_n X dX7_pairs_0 rfl (lv_at hl 1 rfl) ?_
  refine x_iconst X dX7_pairs_1 ?_
  refine x_icmp_lt X rfl k32_2 11 dX7_pairs_2 (by decide) (fun hc => ?_) (fun hc => ?_)
  · replace hV := hV.1 hc
    refine x_aload_n X dX7_pairs_11 rfl (lv_at hl 0 rfl) ?_
    refine x_iconst X dX7_pairs_12 ?_
    refine x_cvi X hw [iV 1] [] (c_P_fail l G ad hI σ 1 hV) (cwV 1 X.2.2.2.2 gX7_pairs_X7_fail rfl rfl rfl hd_P_fail ⟨x_fr hR.1 rfl, x_fr hR.2 rfl⟩) lx0 cX7 rfl hl.1 rfl (Nat.le_of_ble_eq_true rfl) dX7_pairs_13 ⟨Nat.zero_le _, Nat.zero_le _⟩ (fun r2 σ1 H locs hV hw => ?_)
    exact hret r2 σ1 H locs ls 16 hV hw dX7_pairs_16
  · replace hV := hV.2 hc
    refine x_iload_n X dX7_pairs_5 rfl (lv_at hl 1 rfl) ?_
    refine x_bipush X dX7_pairs_6 (by decide) ?_
    refine x_icmp_le X rfl k32_8 17 dX7_pairs_8 (by decide) (fun hc => ?_) (fun hc => ?_)
    · replace hV := hV.1 hc
      refine x_aload_n X dX7_pairs_17 rfl (lv_at hl 0 rfl) ?_
      refine x_getr X hw lx0 cX7 0 (by decide) rfl n_P_pairs_1 n_P_pairs_0 dX7_pairs_18 ?_
      refine x_geti X hw lx1 cX2 0 (by decide) rfl n_P_pairs_3 n_P_pairs_2 dX7_pairs_21 ?_
      refine x_bi (fun x2_3 ex2_3 => ?_)
      replace hV := hV x2_3 ex2_3
      clear ex2_3
      refine x_istore_n X [(2, iV x2_3), (0, .ref (ad 0)), (1, iV a1)] dX7_pairs_24 rfl hl (by decide) rfl (fun ls hl => ?_)
      refine x_aload_n X dX7_pairs_25 rfl (lv_at hl 1 rfl) ?_
      refine x_getr X hw lx0 cX7 0 (by decide) rfl n_P_pairs_1 n_P_pairs_0 dX7_pairs_26 ?_
      refine x_iload_n X dX7_pairs_29 rfl (lv_at hl 2 rfl) ?_
      refine x_puti X hw lx1 cX2 0 (by decide) rfl n_P_pairs_3 n_P_pairs_2 tyX2 tyX2_ok nmX2 rfl rfl rfl dX7_pairs_30 (fun H locs σ4 hs hw => ?_)
      replace hV := hV σ4 hs
      refine x_aload_n X dX7_pairs_33 rfl (lv_at hl 1 rfl) ?_
      refine x_getr X hw lx0 cX7 0 (by decide) rfl n_P_pairs_1 n_P_pairs_0 dX7_pairs_34 ?_
      refine x_getr X hw lx1 cX2 1 (by decide) rfl n_P_pairs_3 n_P_pairs_4 dX7_pairs_37 ?_
      refine x_iconst X dX7_pairs_40 ?_
      refine x_csv X hw [.ref (ad 2), iV (-1)] [] (c_fillI l G ad hI 2 84 lx2 σ4 (-1) hV) (va_cwS 2 X.2.2.2.2 gX7_pairs_J7_fill_53178 rfl rfl rfl hd_fillI ⟨x_fr hR.1 rfl, x_fr hR.2 rfl⟩) rfl hl.1 rfl (Nat.le_of_ble_eq_true rfl) dX7_pairs_41 ⟨Nat.zero_le _, Nat.zero_le _⟩ (fun σ5 H locs hV hw => ?_)
      refine x_aload_n X dX7_pairs_44 rfl (lv_at hl 1 rfl) ?_
      refine x_cvv X hw [] [] (c_P_beginAnew l G ad hI σ5 hV) (cwV 0 X.2.2.2.2 gX7_pairs_X7_beginAnew rfl rfl rfl hd_P_beginAnew ⟨x_fr hR.1 rfl, x_fr hR.2 rfl⟩) lx0 cX7 rfl hl.1 rfl (Nat.le_of_ble_eq_true rfl) dX7_pairs_45 ⟨Nat.zero_le _, Nat.zero_le _⟩ (fun σ6 H locs hV hw => ?_)
      refine x_iload_n X dX7_pairs_48 rfl (lv_at hl 0 rfl) ?_
      exact hret x2_3 σ6 H locs ls 49 hV hw dX7_pairs_49
    · replace hV := hV.2 hc
      refine x_aload_n X dX7_pairs_11 rfl (lv_at hl 0 rfl) ?_
      refine x_iconst X dX7_pairs_12 ?_
      refine x_cvi X hw [iV 1] [] (c_P_fail l G ad hI σ 1 hV) (cwV 1 X.2.2.2.2 gX7_pairs_X7_fail rfl rfl rfl hd_P_fail ⟨x_fr hR.1 rfl, x_fr hR.2 rfl⟩) lx0 cX7 rfl hl.1 rfl (Nat.le_of_ble_eq_true rfl) dX7_pairs_13 ⟨Nat.zero_le _, Nat.zero_le _⟩ (fun r8 σ7 H locs hV hw => ?_)
      exact hret r8 σ7 H locs ls 16 hV hw dX7_pairs_16

theorem n_P_isCell_0 : Cond.fieldLink RX7 12 "LacePillow" "plan" "LLacePillow$Plan;" ∈ wsX7_isCell := by decide +kernel
theorem n_P_isCell_1 : ∀ w ∈ wsX70, w ∈ wsX7_isCell := by decide +kernel
theorem n_P_isCell_2 : Cond.fieldLink RX7 84 "LacePillow$Plan" "pairs" "I" ∈ wsX7_isCell := by decide +kernel
theorem n_P_isCell_3 : ∀ w ∈ wsX20, w ∈ wsX7_isCell := by decide +kernel
set_option maxHeartbeats 4000000 in
set_option maxRecDepth 100000 in
theorem c_P_isCell (l : Launch) (G : GT) (ad : Nat → Nat) (hI : Inj LX ad) (σ : St) (a1 : Int) (a2 : Int) {Q : Int → St → Prop} (hV : V_P_isCell σ a1 a2 Q) : Met l yX7_isCell wsX7_isCell (rmx 0 0) (Pq vwCl G LX ad σ [.ref (ad 0), iV a1, iV a2]) (Qz vwCl G LX ad Q) 0 0 (Ax LX ad) := by
  unfold V_P_isCell at hV
  refine x_metz (own := RX7) (by decide) rfl rfl (Nat.le_of_ble_eq_true rfl) hI ?_
  intro p e s m args below meth c R QQ X hR hret ls hl hw
  replace hl : lv_has ls 3 [(0, .ref (ad 0)), (1, iV a1), (2, iV a2)] := hl
  obtain ⟨H, hH⟩ : ∃ z, z = s.heap := ⟨_, rfl⟩
  obtain ⟨locs, hlo⟩ : ∃ z : List Loc, z = [] := ⟨_, rfl⟩
  rw [← hH, ← hlo]
  replace hw : Wx vwCl G LX ad s H locs σ := by rw [hH, hlo]; exact hw
  clear hH hlo
  refine x_iload_n X dX7_isCell_0 rfl (lv_at hl 1 rfl) ?_
  refine x_if_lt X rfl 31 dX7_isCell_1 (by decide) (fun hc => ?_) (fun hc => ?_)
  · replace hV := hV.1 hc
    refine x_iconst X dX7_isCell_31 ?_
    exact hret 0 σ H locs ls 32 (by decide) hV hw dX7_isCell_32
  · replace hV := hV.2 hc
    refine x_iload_n X dX7_isCell_4 rfl (lv_at hl 1 rfl) ?_
    refine x_bipush X dX7_isCell_5 (by decide) ?_
    refine x_icmp_ge X rfl k32_12 31 dX7_isCell_7 (by decide) (fun hc => ?_) (fun hc => ?_)
    · replace hV := hV.1 hc
      refine x_iconst X dX7_isCell_31 ?_
      exact hret 0 σ H locs ls 32 (by decide) hV hw dX7_isCell_32
    · replace hV := hV.2 hc
      refine x_iload_n X dX7_isCell_10 rfl (lv_at hl 2 rfl) ?_
      refine x_if_lt X rfl 31 dX7_isCell_11 (by decide) (fun hc => ?_) (fun hc => ?_)
      · replace hV := hV.1 hc
        refine x_iconst X dX7_isCell_31 ?_
        exact hret 0 σ H locs ls 32 (by decide) hV hw dX7_isCell_32
      · replace hV := hV.2 hc
        refine x_iload_n X dX7_isCell_14 rfl (lv_at hl 2 rfl) ?_
        refine x_aload_n X dX7_isCell_15 rfl (lv_at hl 0 rfl) ?_
        refine x_getr X hw lx0 cX7 0 (by decide) rfl n_P_isCell_1 n_P_isCell_0 dX7_isCell_16 ?_
        refine x_geti X hw lx1 cX2 0 (by decide) rfl n_P_isCell_3 n_P_isCell_2 dX7_isCell_19 ?_
        refine x_iconst X dX7_isCell_22 ?_
        refine x_isub X dX7_isCell_23 ?_
        refine x_icmp_ge X rfl rfl 31 dX7_isCell_24 (by decide) (fun hc => ?_) (fun hc => ?_)
        · replace hV := hV.1 hc
          refine x_iconst X dX7_isCell_31 ?_
          exact hret 0 σ H locs ls 32 (by decide) hV hw dX7_isCell_32
        · replace hV := hV.2 hc
          refine x_iconst X dX7_isCell_27 ?_
          refine x_goto X 32 dX7_isCell_28 (by decide) ?_
          exact hret 1 σ H locs ls 32 (by decide) hV hw dX7_isCell_32

theorem n_P_holds_0 : Cond.fieldLink RX7 12 "LacePillow" "plan" "LLacePillow$Plan;" ∈ wsX7_holds := by decide +kernel
theorem n_P_holds_1 : ∀ w ∈ wsX70, w ∈ wsX7_holds := by decide +kernel
theorem n_P_holds_2 : Cond.fieldLink RX7 87 "LacePillow$Plan" "cells" "[I" ∈ wsX7_holds := by decide +kernel
theorem n_P_holds_3 : ∀ w ∈ wsX20, w ∈ wsX7_holds := by decide +kernel
set_option maxHeartbeats 4000000 in
set_option maxRecDepth 100000 in
theorem c_P_holds (l : Launch) (G : GT) (ad : Nat → Nat) (hI : Inj LX ad) (σ : St) (a1 : Int) (a2 : Int) {Q : Int → St → Prop} (hV : V_P_holds σ a1 a2 Q) : Met l yX7_holds wsX7_holds (rmx 1 22) (Pq vwCl G LX ad σ [.ref (ad 0), iV a1, iV a2]) (Qz vwCl G LX ad Q) 0 0 (Ax LX ad) := by
  unfold V_P_holds at hV
  refine x_metz (own := RX7) (by decide) rfl rfl (Nat.le_of_ble_eq_true rfl) hI ?_
  intro p e s m args below meth c R QQ X hR hret ls hl hw
  replace hl : lv_has ls 3 [(0, .ref (ad 0)), (1, iV a1), (2, iV a2)] := hl
  obtain ⟨H, hH⟩ : ∃ z, z = s.heap := ⟨_, rfl⟩
  obtain ⟨locs, hlo⟩ : ∃ z : List Loc, z = [] := ⟨_, rfl⟩
  rw [← hH, ← hlo]
  replace hw : Wx vwCl G LX ad s H locs σ := by rw [hH, hlo]; exact hw
  clear hH hlo
  refine x_aload_n X dX7_holds_0 rfl (lv_at hl 0 rfl) ?_
  refine x_iload_n X dX7_holds_1 rfl (lv_at hl 1 rfl) ?_
  refine x_iload_n X dX7_holds_2 rfl (lv_at hl 2 rfl) ?_
  refine x_cvz X hw [iV a1, iV a2] [] (c_P_isCell l G ad hI σ a1 a2 hV) (cwV 2 X.2.2.2.2 gX7_holds_X7_isCell rfl rfl rfl hd_P_isCell ⟨x_fr hR.1 rfl, x_fr hR.2 rfl⟩) lx0 cX7 rfl hl.1 rfl (Nat.le_of_ble_eq_true rfl) dX7_holds_3 ⟨Nat.zero_le _, Nat.zero_le _⟩ (fun r2 σ1 H locs hr2 hV hw => ?_)
  refine x_if_eq X rfl 31 dX7_holds_6 (by decide) (fun hc => ?_) (fun hc => ?_)
  · replace hV := hV.1 hc
    refine x_iconst X dX7_holds_31 ?_
    exact hret 0 σ1 H locs ls 32 (by decide) hV hw dX7_holds_32
  · replace hV := hV.2 hc
    refine x_aload_n X dX7_holds_9 rfl (lv_at hl 0 rfl) ?_
    refine x_getr X hw lx0 cX7 0 (by decide) rfl n_P_holds_1 n_P_holds_0 dX7_holds_10 ?_
    refine x_getr X hw lx1 cX2 1 (by decide) rfl n_P_holds_3 n_P_holds_2 dX7_holds_13 ?_
    refine x_iload_n X dX7_holds_16 rfl (lv_at hl 1 rfl) ?_
    refine x_bipush X dX7_holds_17 (by decide) ?_
    refine x_imul X dX7_holds_19 ?_
    refine x_iload_n X dX7_holds_20 rfl (lv_at hl 2 rfl) ?_
    refine x_iadd X dX7_holds_21 ?_
    obtain ⟨hi, hV⟩ := hV
    refine x_iald X hw lx2 rfl rfl hi dX7_holds_22 ?_
    refine x_iconst X dX7_holds_23 ?_
    refine x_icmp_eq X rfl k32_m1 31 dX7_holds_24 (by decide) (fun hc => ?_) (fun hc => ?_)
    · replace hV := hV.1 hc
      refine x_iconst X dX7_holds_31 ?_
      exact hret 0 σ1 H locs ls 32 (by decide) hV hw dX7_holds_32
    · replace hV := hV.2 hc
      refine x_iconst X dX7_holds_27 ?_
      refine x_goto X 32 dX7_holds_28 (by decide) ?_
      exact hret 1 σ1 H locs ls 32 (by decide) hV hw dX7_holds_32

theorem n_P_lay_0 : Cond.fieldLink RX7 12 "LacePillow" "plan" "LLacePillow$Plan;" ∈ wsX7_lay := by decide +kernel
theorem n_P_lay_1 : ∀ w ∈ wsX70, w ∈ wsX7_lay := by decide +kernel
theorem n_P_lay_2 : Cond.fieldLink RX7 87 "LacePillow$Plan" "cells" "[I" ∈ wsX7_lay := by decide +kernel
theorem n_P_lay_3 : ∀ w ∈ wsX20, w ∈ wsX7_lay := by decide +kernel
set_option maxHeartbeats 4000000 in
set_option maxRecDepth 100000 in
theorem c_P_lay (l : Launch) (G : GT) (ad : Nat → Nat) (hI : Inj LX ad) (σ : St) (a1 : Int) (a2 : Int) (a3 : Int) {Q : Int → St → Prop} (hV : V_P_lay σ a1 a2 a3 Q) : Met l yX7_lay wsX7_lay (rmx 5 119) (Pq vwCl G LX ad σ [.ref (ad 0), iV a1, iV a2, iV a3]) (Qi vwCl G LX ad Q) 0 0 (Ax LX ad) := by
  unfold V_P_lay at hV
  refine x_meti (own := RX7) (by decide) rfl rfl (Nat.le_of_ble_eq_true rfl) hI ?_
  intro p e s m args below meth c R QQ X hR hret ls hl hw
  replace hl : lv_has ls 5 [(0, .ref (ad 0)), (1, iV a1), (2, iV a2), (3, iV a3)] := hl
  obtain ⟨H, hH⟩ : ∃ z, z = s.heap := ⟨_, rfl⟩
  obtain ⟨locs, hlo⟩ : ∃ z : List Loc, z = [] := ⟨_, rfl⟩
  rw [← hH, ← hlo]
  replace hw : Wx vwCl G LX ad s H locs σ := by rw [hH, hlo]; exact hw
  clear hH hlo
  refine x_aload_n X dX7_lay_0 rfl (lv_at hl 0 rfl) ?_
  refine x_iload_n X dX7_lay_1 rfl (lv_at hl 1 rfl) ?_
  refine x_iload_n X dX7_lay_2 rfl (lv_at hl 2 rfl) ?_
  refine x_cvz X hw [iV a1, iV a2] [] (c_P_isCell l G ad hI σ a1 a2 hV) (cwV 2 X.2.2.2.2 gX7_lay_X7_isCell rfl rfl rfl hd_P_isCell ⟨x_fr hR.1 rfl, x_fr hR.2 rfl⟩) lx0 cX7 rfl hl.1 rfl (Nat.le_of_ble_eq_true rfl) dX7_lay_3 ⟨Nat.zero_le _, Nat.zero_le _⟩ (fun r2 σ1 H locs hr2 hV hw => ?_)
  refine x_if_eq X rfl 20 dX7_lay_6 (by decide) (fun hc => ?_) (fun hc => ?_)
  · replace hV := hV.1 hc
    refine x_aload_n X dX7_lay_20 rfl (lv_at hl 0 rfl) ?_
    refine x_iconst X dX7_lay_21 ?_
    refine x_cvi X hw [iV 1] [] (c_P_fail l G ad hI σ1 1 hV) (cwV 1 X.2.2.2.2 gX7_lay_X7_fail rfl rfl rfl hd_P_fail ⟨x_fr hR.1 rfl, x_fr hR.2 rfl⟩) lx0 cX7 rfl hl.1 rfl (Nat.le_of_ble_eq_true rfl) dX7_lay_22 ⟨Nat.zero_le _, Nat.zero_le _⟩ (fun r4 σ3 H locs hV hw => ?_)
    exact hret r4 σ3 H locs ls 25 hV hw dX7_lay_25
  · replace hV := hV.2 hc
    refine x_iload_n X dX7_lay_9 rfl (lv_at hl 3 rfl) ?_
    refine x_iconst X dX7_lay_10 ?_
    refine x_icmp_lt X rfl k32_m1 20 dX7_lay_11 (by decide) (fun hc => ?_) (fun hc => ?_)
    · replace hV := hV.1 hc
      refine x_aload_n X dX7_lay_20 rfl (lv_at hl 0 rfl) ?_
      refine x_iconst X dX7_lay_21 ?_
      refine x_cvi X hw [iV 1] [] (c_P_fail l G ad hI σ1 1 hV) (cwV 1 X.2.2.2.2 gX7_lay_X7_fail rfl rfl rfl hd_P_fail ⟨x_fr hR.1 rfl, x_fr hR.2 rfl⟩) lx0 cX7 rfl hl.1 rfl (Nat.le_of_ble_eq_true rfl) dX7_lay_22 ⟨Nat.zero_le _, Nat.zero_le _⟩ (fun r6 σ5 H locs hV hw => ?_)
      exact hret r6 σ5 H locs ls 25 hV hw dX7_lay_25
    · replace hV := hV.2 hc
      refine x_iload_n X dX7_lay_14 rfl (lv_at hl 3 rfl) ?_
      refine x_bipush X dX7_lay_15 (by decide) ?_
      refine x_icmp_lt X rfl k32_6 26 dX7_lay_17 (by decide) (fun hc => ?_) (fun hc => ?_)
      · replace hV := hV.1 hc
        refine x_iload_n X dX7_lay_26 rfl (lv_at hl 3 rfl) ?_
        refine x_iconst X dX7_lay_27 ?_
        have hJ59 : ∀ (σ7 : St) (H : Heap) (locs : List Loc) (ls : Array Slot), J_P_lay_59 a1 a2 a3 Q σ7 → Wx vwCl G LX ad s H locs σ7 → lv_has ls 5 [(0, .ref (ad 0)), (1, iV a1), (2, iV a2), (3, iV a3)] → W p l e R s m args below meth c H locs 0 0 QQ (F0 m 59 ls []) := by
          intro σ7 H locs ls hV hw hl
          unfold J_P_lay_59 at hV
          refine x_aload_n X dX7_lay_59 rfl (lv_at hl 0 rfl) ?_
          refine x_getr X hw lx0 cX7 0 (by decide) rfl n_P_lay_1 n_P_lay_0 dX7_lay_60 ?_
          refine x_getr X hw lx1 cX2 1 (by decide) rfl n_P_lay_3 n_P_lay_2 dX7_lay_63 ?_
          refine x_iload_n X dX7_lay_66 rfl (lv_at hl 1 rfl) ?_
          refine x_bipush X dX7_lay_67 (by decide) ?_
          refine x_imul X dX7_lay_69 ?_
          refine x_iload_n X dX7_lay_70 rfl (lv_at hl 2 rfl) ?_
          refine x_iadd X dX7_lay_71 ?_
          obtain ⟨hi, hV⟩ := hV
          refine x_iald X hw lx2 rfl rfl hi dX7_lay_72 ?_
          refine x_bi (fun x4_8 ex4_8 => ?_)
          replace hV := hV x4_8 ex4_8
          clear ex4_8
          refine x_istore X [(4, iV x4_8), (0, .ref (ad 0)), (1, iV a1), (2, iV a2), (3, iV a3)] dX7_lay_73 hl (by decide) rfl (fun ls hl => ?_)
          refine x_aload_n X dX7_lay_75 rfl (lv_at hl 1 rfl) ?_
          refine x_getr X hw lx0 cX7 0 (by decide) rfl n_P_lay_1 n_P_lay_0 dX7_lay_76 ?_
          refine x_getr X hw lx1 cX2 1 (by decide) rfl n_P_lay_3 n_P_lay_2 dX7_lay_79 ?_
          refine x_iload_n X dX7_lay_82 rfl (lv_at hl 2 rfl) ?_
          refine x_bipush X dX7_lay_83 (by decide) ?_
          refine x_imul X dX7_lay_85 ?_
          refine x_iload_n X dX7_lay_86 rfl (lv_at hl 3 rfl) ?_
          refine x_iadd X dX7_lay_87 ?_
          refine x_iload_n X dX7_lay_88 rfl (lv_at hl 4 rfl) ?_
          obtain ⟨hi, hV⟩ := hV
          refine x_iast X hw lx2 rfl rfl hi dX7_lay_89 (fun H locs σ9 hs hw => ?_)
          replace hV := hV σ9 hs
          refine x_aload_n X dX7_lay_90 rfl (lv_at hl 1 rfl) ?_
          refine x_cvv X hw [] [] (c_P_beginAnew l G ad hI σ9 hV) (cwV 0 X.2.2.2.2 gX7_lay_X7_beginAnew rfl rfl rfl hd_P_beginAnew ⟨x_fr hR.1 rfl, x_fr hR.2 rfl⟩) lx0 cX7 rfl hl.1 rfl (Nat.le_of_ble_eq_true rfl) dX7_lay_91 ⟨Nat.zero_le _, Nat.zero_le _⟩ (fun σ10 H locs hV hw => ?_)
          refine x_iload X dX7_lay_94 (lv_at hl 0 rfl) ?_
          exact hret x4_8 σ10 H locs ls 96 hV hw dX7_lay_96
        refine x_icmp_eq X rfl k32_m1 59 dX7_lay_28 (by decide) (fun hc => ?_) (fun hc => ?_)
        · replace hV := hV.1 hc
          exact hJ59 σ1 H locs ls hV hw hl
        · replace hV := hV.2 hc
          refine x_aload_n X dX7_lay_31 rfl (lv_at hl 0 rfl) ?_
          refine x_iload_n X dX7_lay_32 rfl (lv_at hl 1 rfl) ?_
          refine x_iload_n X dX7_lay_33 rfl (lv_at hl 2 rfl) ?_
          refine x_iconst X dX7_lay_34 ?_
          refine x_isub X dX7_lay_35 ?_
          refine x_cvz X hw [iV a1, iV (a2 - 1)] [] (c_P_holds l G ad hI σ1 a1 (a2 - 1) hV) (cwV 2 X.2.2.2.2 gX7_lay_X7_holds rfl rfl rfl hd_P_holds ⟨x_fr hR.1 rfl, x_fr hR.2 rfl⟩) lx0 cX7 rfl hl.1 rfl (Nat.le_of_ble_eq_true rfl) dX7_lay_36 ⟨Nat.zero_le _, Nat.zero_le _⟩ (fun r12 σ11 H locs hr12 hV hw => ?_)
          refine x_if_ne X rfl 53 dX7_lay_39 (by decide) (fun hc => ?_) (fun hc => ?_)
          · replace hV := hV.1 hc
            refine x_aload_n X dX7_lay_53 rfl (lv_at hl 0 rfl) ?_
            refine x_iconst X dX7_lay_54 ?_
            refine x_cvi X hw [iV 3] [] (c_P_fail l G ad hI σ11 3 hV) (cwV 1 X.2.2.2.2 gX7_lay_X7_fail rfl rfl rfl hd_P_fail ⟨x_fr hR.1 rfl, x_fr hR.2 rfl⟩) lx0 cX7 rfl hl.1 rfl (Nat.le_of_ble_eq_true rfl) dX7_lay_55 ⟨Nat.zero_le _, Nat.zero_le _⟩ (fun r14 σ13 H locs hV hw => ?_)
            exact hret r14 σ13 H locs ls 58 hV hw dX7_lay_58
          · replace hV := hV.2 hc
            refine x_aload_n X dX7_lay_42 rfl (lv_at hl 0 rfl) ?_
            refine x_iload_n X dX7_lay_43 rfl (lv_at hl 1 rfl) ?_
            refine x_iload_n X dX7_lay_44 rfl (lv_at hl 2 rfl) ?_
            refine x_iconst X dX7_lay_45 ?_
            refine x_iadd X dX7_lay_46 ?_
            refine x_cvz X hw [iV a1, iV (a2 + 1)] [] (c_P_holds l G ad hI σ11 a1 (a2 + 1) hV) (cwV 2 X.2.2.2.2 gX7_lay_X7_holds rfl rfl rfl hd_P_holds ⟨x_fr hR.1 rfl, x_fr hR.2 rfl⟩) lx0 cX7 rfl hl.1 rfl (Nat.le_of_ble_eq_true rfl) dX7_lay_47 ⟨Nat.zero_le _, Nat.zero_le _⟩ (fun r16 σ15 H locs hr16 hV hw => ?_)
            refine x_if_eq X rfl 59 dX7_lay_50 (by decide) (fun hc => ?_) (fun hc => ?_)
            · replace hV := hV.1 hc
              exact hJ59 σ15 H locs ls hV hw hl
            · replace hV := hV.2 hc
              refine x_aload_n X dX7_lay_53 rfl (lv_at hl 0 rfl) ?_
              refine x_iconst X dX7_lay_54 ?_
              refine x_cvi X hw [iV 3] [] (c_P_fail l G ad hI σ15 3 hV) (cwV 1 X.2.2.2.2 gX7_lay_X7_fail rfl rfl rfl hd_P_fail ⟨x_fr hR.1 rfl, x_fr hR.2 rfl⟩) lx0 cX7 rfl hl.1 rfl (Nat.le_of_ble_eq_true rfl) dX7_lay_55 ⟨Nat.zero_le _, Nat.zero_le _⟩ (fun r18 σ17 H locs hV hw => ?_)
              exact hret r18 σ17 H locs ls 58 hV hw dX7_lay_58
      · replace hV := hV.2 hc
        refine x_aload_n X dX7_lay_20 rfl (lv_at hl 0 rfl) ?_
        refine x_iconst X dX7_lay_21 ?_
        refine x_cvi X hw [iV 1] [] (c_P_fail l G ad hI σ1 1 hV) (cwV 1 X.2.2.2.2 gX7_lay_X7_fail rfl rfl rfl hd_P_fail ⟨x_fr hR.1 rfl, x_fr hR.2 rfl⟩) lx0 cX7 rfl hl.1 rfl (Nat.le_of_ble_eq_true rfl) dX7_lay_22 ⟨Nat.zero_le _, Nat.zero_le _⟩ (fun r20 σ19 H locs hV hw => ?_)
        exact hret r20 σ19 H locs ls 25 hV hw dX7_lay_25

theorem n_P_look_0 : Cond.fieldLink RX7 12 "LacePillow" "plan" "LLacePillow$Plan;" ∈ wsX7_look := by decide +kernel
theorem n_P_look_1 : ∀ w ∈ wsX70, w ∈ wsX7_look := by decide +kernel
theorem n_P_look_2 : Cond.fieldLink RX7 87 "LacePillow$Plan" "cells" "[I" ∈ wsX7_look := by decide +kernel
theorem n_P_look_3 : ∀ w ∈ wsX20, w ∈ wsX7_look := by decide +kernel
set_option maxHeartbeats 4000000 in
set_option maxRecDepth 100000 in
theorem c_P_look (l : Launch) (G : GT) (ad : Nat → Nat) (hI : Inj LX ad) (σ : St) (a1 : Int) (a2 : Int) {Q : Int → St → Prop} (hV : V_P_look σ a1 a2 Q) : Met l yX7_look wsX7_look (rmx 1 22) (Pq vwCl G LX ad σ [.ref (ad 0), iV a1, iV a2]) (Qi vwCl G LX ad Q) 0 0 (Ax LX ad) := by
  unfold V_P_look at hV
  refine x_meti (own := RX7) (by decide) rfl rfl (Nat.le_of_ble_eq_true rfl) hI ?_
  intro p e s m args below meth c R QQ X hR hret ls hl hw
  replace hl : lv_has ls 3 [(0, .ref (ad 0)), (1, iV a1), (2, iV a2)] := hl
  obtain ⟨H, hH⟩ : ∃ z, z = s.heap := ⟨_, rfl⟩
  obtain ⟨locs, hlo⟩ : ∃ z : List Loc, z = [] := ⟨_, rfl⟩
  rw [← hH, ← hlo]
  replace hw : Wx vwCl G LX ad s H locs σ := by rw [hH, hlo]; exact hw
  clear hH hlo
  refine x_aload_n X dX7_look_0 rfl (lv_at hl 0 rfl) ?_
  refine x_iload_n X dX7_look_1 rfl (lv_at hl 1 rfl) ?_
  refine x_iload_n X dX7_look_2 rfl (lv_at hl 2 rfl) ?_
  refine x_cvz X hw [iV a1, iV a2] [] (c_P_isCell l G ad hI σ a1 a2 hV) (cwV 2 X.2.2.2.2 gX7_look_X7_isCell rfl rfl rfl hd_P_isCell ⟨x_fr hR.1 rfl, x_fr hR.2 rfl⟩) lx0 cX7 rfl hl.1 rfl (Nat.le_of_ble_eq_true rfl) dX7_look_3 ⟨Nat.zero_le _, Nat.zero_le _⟩ (fun r2 σ1 H locs hr2 hV hw => ?_)
  refine x_if_ne X rfl 15 dX7_look_6 (by decide) (fun hc => ?_) (fun hc => ?_)
  · replace hV := hV.1 hc
    refine x_aload_n X dX7_look_15 rfl (lv_at hl 0 rfl) ?_
    refine x_getr X hw lx0 cX7 0 (by decide) rfl n_P_look_1 n_P_look_0 dX7_look_16 ?_
    refine x_getr X hw lx1 cX2 1 (by decide) rfl n_P_look_3 n_P_look_2 dX7_look_19 ?_
    refine x_iload_n X dX7_look_22 rfl (lv_at hl 1 rfl) ?_
    refine x_bipush X dX7_look_23 (by decide) ?_
    refine x_imul X dX7_look_25 ?_
    refine x_iload_n X dX7_look_26 rfl (lv_at hl 2 rfl) ?_
    refine x_iadd X dX7_look_27 ?_
    obtain ⟨hi, hV⟩ := hV
    refine x_iald X hw lx2 rfl rfl hi dX7_look_28 ?_
    exact hret (σ1 2 (i32 ((a1 * 7) + a2))) σ1 H locs ls 29 hV hw dX7_look_29
  · replace hV := hV.2 hc
    refine x_aload_n X dX7_look_9 rfl (lv_at hl 0 rfl) ?_
    refine x_iconst X dX7_look_10 ?_
    refine x_cvi X hw [iV 1] [] (c_P_fail l G ad hI σ1 1 hV) (cwV 1 X.2.2.2.2 gX7_look_X7_fail rfl rfl rfl hd_P_fail ⟨x_fr hR.1 rfl, x_fr hR.2 rfl⟩) lx0 cX7 rfl hl.1 rfl (Nat.le_of_ble_eq_true rfl) dX7_look_11 ⟨Nat.zero_le _, Nat.zero_le _⟩ (fun r4 σ3 H locs hV hw => ?_)
    exact hret r4 σ3 H locs ls 14 hV hw dX7_look_14

theorem n_P_feed_0 : Cond.fieldLink RX7 65 "LacePillow" "tape" "LLacePillow$Tape;" ∈ wsX7_feed := by decide +kernel
theorem n_P_feed_1 : ∀ w ∈ wsX70, w ∈ wsX7_feed := by decide +kernel
theorem n_P_feed_2 : Cond.fieldLink RX7 106 "LacePillow$Tape" "size" "I" ∈ wsX7_feed := by decide +kernel
theorem n_P_feed_3 : ∀ w ∈ wsX40, w ∈ wsX7_feed := by decide +kernel
theorem n_P_feed_4 : Cond.fieldLink RX7 109 "LacePillow$Tape" "bytes" "[I" ∈ wsX7_feed := by decide +kernel
set_option maxHeartbeats 4000000 in
set_option maxRecDepth 100000 in
theorem c_P_feed (l : Launch) (G : GT) (ad : Nat → Nat) (hI : Inj LX ad) (σ : St) (a1 : Int) {Q : Int → St → Prop} (hV : V_P_feed σ a1 Q) : Met l yX7_feed wsX7_feed (rmx 1 21) (Pq vwCl G LX ad σ [.ref (ad 0), iV a1]) (Qi vwCl G LX ad Q) 0 0 (Ax LX ad) := by
  unfold V_P_feed at hV
  refine x_meti (own := RX7) (by decide) rfl rfl (Nat.le_of_ble_eq_true rfl) hI ?_
  intro p e s m args below meth c R QQ X hR hret ls hl hw
  replace hl : lv_has ls 2 [(0, .ref (ad 0)), (1, iV a1)] := hl
  obtain ⟨H, hH⟩ : ∃ z, z = s.heap := ⟨_, rfl⟩
  obtain ⟨locs, hlo⟩ : ∃ z : List Loc, z = [] := ⟨_, rfl⟩
  rw [← hH, ← hlo]
  replace hw : Wx vwCl G LX ad s H locs σ := by rw [hH, hlo]; exact hw
  clear hH hlo
  refine x_iload_n X dX7_feed_0 rfl (lv_at hl 1 rfl) ?_
  refine x_if_lt X rfl 11 dX7_feed_1 (by decide) (fun hc => ?_) (fun hc => ?_)
  · replace hV := hV.1 hc
    refine x_aload_n X dX7_feed_11 rfl (lv_at hl 0 rfl) ?_
    refine x_iconst X dX7_feed_12 ?_
    refine x_cvi X hw [iV 1] [] (c_P_fail l G ad hI σ 1 hV) (cwV 1 X.2.2.2.2 gX7_feed_X7_fail rfl rfl rfl hd_P_fail ⟨x_fr hR.1 rfl, x_fr hR.2 rfl⟩) lx0 cX7 rfl hl.1 rfl (Nat.le_of_ble_eq_true rfl) dX7_feed_13 ⟨Nat.zero_le _, Nat.zero_le _⟩ (fun r2 σ1 H locs hV hw => ?_)
    exact hret r2 σ1 H locs ls 16 hV hw dX7_feed_16
  · replace hV := hV.2 hc
    refine x_iload_n X dX7_feed_4 rfl (lv_at hl 1 rfl) ?_
    refine x_sipush X dX7_feed_5 (by decide) ?_
    refine x_icmp_le X rfl k32_255 17 dX7_feed_8 (by decide) (fun hc => ?_) (fun hc => ?_)
    · replace hV := hV.1 hc
      refine x_aload_n X dX7_feed_17 rfl (lv_at hl 0 rfl) ?_
      refine x_getr X hw lx0 cX7 10 (by decide) rfl n_P_feed_1 n_P_feed_0 dX7_feed_18 ?_
      refine x_geti X hw lx53 cX4 1 (by decide) rfl n_P_feed_3 n_P_feed_2 dX7_feed_21 ?_
      refine x_bipush X dX7_feed_24 (by decide) ?_
      refine x_icmp_lt X rfl k32_120 35 dX7_feed_26 (by decide) (fun hc => ?_) (fun hc => ?_)
      · replace hV := hV.1 hc
        refine x_aload_n X dX7_feed_35 rfl (lv_at hl 0 rfl) ?_
        refine x_getr X hw lx0 cX7 10 (by decide) rfl n_P_feed_1 n_P_feed_0 dX7_feed_36 ?_
        refine x_getr X hw lx53 cX4 0 (by decide) rfl n_P_feed_3 n_P_feed_4 dX7_feed_39 ?_
        refine x_aload_n X dX7_feed_42 rfl (lv_at hl 0 rfl) ?_
        refine x_getr X hw lx0 cX7 10 (by decide) rfl n_P_feed_1 n_P_feed_0 dX7_feed_43 ?_
        refine x_geti X hw lx53 cX4 1 (by decide) rfl n_P_feed_3 n_P_feed_2 dX7_feed_46 ?_
        refine x_iload_n X dX7_feed_49 rfl (lv_at hl 1 rfl) ?_
        obtain ⟨hi, hV⟩ := hV
        refine x_iast X hw lx54 rfl rfl hi dX7_feed_50 (fun H locs σ3 hs hw => ?_)
        replace hV := hV σ3 hs
        refine x_aload_n X dX7_feed_51 rfl (lv_at hl 0 rfl) ?_
        refine x_getr X hw lx0 cX7 10 (by decide) rfl n_P_feed_1 n_P_feed_0 dX7_feed_52 ?_
        refine x_dup X dX7_feed_55 rfl ?_
        refine x_geti X hw lx53 cX4 1 (by decide) rfl n_P_feed_3 n_P_feed_2 dX7_feed_56 ?_
        refine x_iconst X dX7_feed_59 ?_
        refine x_iadd X dX7_feed_60 ?_
        refine x_puti X hw lx53 cX4 1 (by decide) rfl n_P_feed_3 n_P_feed_2 tyX4 tyX4_ok nmX4 rfl rfl rfl dX7_feed_61 (fun H locs σ4 hs hw => ?_)
        replace hV := hV σ4 hs
        refine x_aload_n X dX7_feed_64 rfl (lv_at hl 0 rfl) ?_
        refine x_getr X hw lx0 cX7 10 (by decide) rfl n_P_feed_1 n_P_feed_0 dX7_feed_65 ?_
        refine x_geti X hw lx53 cX4 1 (by decide) rfl n_P_feed_3 n_P_feed_2 dX7_feed_68 ?_
        exact hret (σ4 53 1) σ4 H locs ls 71 hV hw dX7_feed_71
      · replace hV := hV.2 hc
        refine x_aload_n X dX7_feed_29 rfl (lv_at hl 0 rfl) ?_
        refine x_iconst X dX7_feed_30 ?_
        refine x_cvi X hw [iV 4] [] (c_P_fail l G ad hI σ 4 hV) (cwV 1 X.2.2.2.2 gX7_feed_X7_fail rfl rfl rfl hd_P_fail ⟨x_fr hR.1 rfl, x_fr hR.2 rfl⟩) lx0 cX7 rfl hl.1 rfl (Nat.le_of_ble_eq_true rfl) dX7_feed_31 ⟨Nat.zero_le _, Nat.zero_le _⟩ (fun r6 σ5 H locs hV hw => ?_)
        exact hret r6 σ5 H locs ls 34 hV hw dX7_feed_34
    · replace hV := hV.2 hc
      refine x_aload_n X dX7_feed_11 rfl (lv_at hl 0 rfl) ?_
      refine x_iconst X dX7_feed_12 ?_
      refine x_cvi X hw [iV 1] [] (c_P_fail l G ad hI σ 1 hV) (cwV 1 X.2.2.2.2 gX7_feed_X7_fail rfl rfl rfl hd_P_fail ⟨x_fr hR.1 rfl, x_fr hR.2 rfl⟩) lx0 cX7 rfl hl.1 rfl (Nat.le_of_ble_eq_true rfl) dX7_feed_13 ⟨Nat.zero_le _, Nat.zero_le _⟩ (fun r8 σ7 H locs hV hw => ?_)
      exact hret r8 σ7 H locs ls 16 hV hw dX7_feed_16

theorem n_P_read_0 : Cond.fieldLink RX7 65 "LacePillow" "tape" "LLacePillow$Tape;" ∈ wsX7_read := by decide +kernel
theorem n_P_read_1 : ∀ w ∈ wsX70, w ∈ wsX7_read := by decide +kernel
theorem n_P_read_2 : Cond.fieldLink RX7 12 "LacePillow" "plan" "LLacePillow$Plan;" ∈ wsX7_read := by decide +kernel
theorem n_P_read_3 : Cond.fieldLink RX7 84 "LacePillow$Plan" "pairs" "I" ∈ wsX7_read := by decide +kernel
theorem n_P_read_4 : ∀ w ∈ wsX20, w ∈ wsX7_read := by decide +kernel
theorem n_P_read_5 : Cond.fieldLink RX7 106 "LacePillow$Tape" "size" "I" ∈ wsX7_read := by decide +kernel
theorem n_P_read_6 : ∀ w ∈ wsX40, w ∈ wsX7_read := by decide +kernel
theorem n_P_read_7 : Cond.fieldLink RX7 33 "LacePillow" "ground" "LLacePillow$Ground;" ∈ wsX7_read := by decide +kernel
theorem n_P_read_8 : Cond.fieldLink RX7 119 "LacePillow$Ground" "size" "I" ∈ wsX7_read := by decide +kernel
theorem n_P_read_9 : ∀ w ∈ wsX00, w ∈ wsX7_read := by decide +kernel
set_option maxHeartbeats 4000000 in
set_option maxRecDepth 100000 in
theorem c_P_read (l : Launch) (G : GT) (ad : Nat → Nat) (hI : Inj LX ad) (σ : St) {Q : Int → St → Prop} (hV : V_P_read σ Q) : Met l yX7_read wsX7_read (rmx 5 119) (Pq vwCl G LX ad σ [.ref (ad 0)]) (Qi vwCl G LX ad Q) 0 0 (Ax LX ad) := by
  unfold V_P_read at hV
  refine x_meti (own := RX7) (by decide) rfl rfl (Nat.le_of_ble_eq_true rfl) hI ?_
  intro p e s m args below meth c R QQ X hR hret ls hl hw
  replace hl : lv_has ls 2 [(0, .ref (ad 0))] := hl
  obtain ⟨H, hH⟩ : ∃ z, z = s.heap := ⟨_, rfl⟩
  obtain ⟨locs, hlo⟩ : ∃ z : List Loc, z = [] := ⟨_, rfl⟩
  rw [← hH, ← hlo]
  replace hw : Wx vwCl G LX ad s H locs σ := by rw [hH, hlo]; exact hw
  clear hH hlo
  refine x_aload_n X dX7_read_0 rfl (lv_at hl 0 rfl) ?_
  refine x_getr X hw lx0 cX7 10 (by decide) rfl n_P_read_1 n_P_read_0 dX7_read_1 ?_
  refine x_aload_n X dX7_read_4 rfl (lv_at hl 0 rfl) ?_
  refine x_getr X hw lx0 cX7 0 (by decide) rfl n_P_read_1 n_P_read_2 dX7_read_5 ?_
  refine x_geti X hw lx1 cX2 0 (by decide) rfl n_P_read_4 n_P_read_3 dX7_read_8 ?_
  refine x_iconst X dX7_read_11 ?_
  refine x_isub X dX7_read_12 ?_
  refine x_cvi X hw [iV ((σ 1 0) - 1)] [] (c_Tape_prickingFault l G ad hI σ ((σ 1 0) - 1) hV) (cwV 1 X.2.2.2.2 gX7_read_X4_prickingFault rfl rfl rfl hd_Tape_prickingFault ⟨x_fr hR.1 rfl, x_fr hR.2 rfl⟩) lx53 cX4 rfl hl.1 rfl (Nat.le_of_ble_eq_true rfl) dX7_read_13 ⟨Nat.zero_le _, Nat.zero_le _⟩ (fun r2 σ1 H locs hV hw => ?_)
  refine x_istore_n X [(1, iV r2), (0, .ref (ad 0))] dX7_read_16 rfl hl (by decide) rfl (fun ls hl => ?_)
  refine x_iload_n X dX7_read_17 rfl (lv_at hl 0 rfl) ?_
  refine x_iconst X dX7_read_18 ?_
  have hJ37 : ∀ (σ3 : St) (H : Heap) (locs : List Loc) (ls : Array Slot), J_P_read_37 Q r2 σ3 → Wx vwCl G LX ad s H locs σ3 → lv_has ls 2 [(1, iV r2), (0, .ref (ad 0))] → W p l e R s m args below meth c H locs 0 0 QQ (F0 m 37 ls []) := by
    intro σ3 H locs ls hV hw hl
    unfold J_P_read_37 at hV
    refine x_aload_n X dX7_read_37 rfl (lv_at hl 1 rfl) ?_
    refine x_getr X hw lx0 cX7 10 (by decide) rfl n_P_read_1 n_P_read_0 dX7_read_38 ?_
    refine x_iconst X dX7_read_41 ?_
    refine x_puti X hw lx53 cX4 1 (by decide) rfl n_P_read_6 n_P_read_5 tyX4 tyX4_ok nmX4 rfl rfl rfl dX7_read_42 (fun H locs σ4 hs hw => ?_)
    replace hV := hV σ4 hs
    refine x_iload_n X dX7_read_45 rfl (lv_at hl 0 rfl) ?_
    refine x_iconst X dX7_read_46 ?_
    refine x_icmp_ne X rfl k32_m1 60 dX7_read_47 (by decide) (fun hc => ?_) (fun hc => ?_)
    · replace hV := hV.1 hc
      refine x_bipush X dX7_read_60 (by decide) ?_
      refine x_iload_n X dX7_read_62 rfl (lv_at hl 0 rfl) ?_
      refine x_isub X dX7_read_63 ?_
      exact hret ((-10) - r2) σ4 H locs ls 64 hV hw dX7_read_64
    · replace hV := hV.2 hc
      refine x_aload_n X dX7_read_50 rfl (lv_at hl 1 rfl) ?_
      refine x_getr X hw lx0 cX7 4 (by decide) rfl n_P_read_1 n_P_read_7 dX7_read_51 ?_
      refine x_geti X hw lx16 cX0 0 (by decide) rfl n_P_read_9 n_P_read_8 dX7_read_54 ?_
      refine x_goto X 64 dX7_read_57 (by decide) ?_
      exact hret (σ4 16 0) σ4 H locs ls 64 hV hw dX7_read_64
  refine x_icmp_ne X rfl k32_m1 37 dX7_read_19 (by decide) (fun hc => ?_) (fun hc => ?_)
  · replace hV := hV.1 hc
    exact hJ37 σ1 H locs ls hV hw hl
  · replace hV := hV.2 hc
    refine x_aload_n X dX7_read_22 rfl (lv_at hl 1 rfl) ?_
    refine x_getr X hw lx0 cX7 10 (by decide) rfl n_P_read_1 n_P_read_0 dX7_read_23 ?_
    refine x_aload_n X dX7_read_26 rfl (lv_at hl 1 rfl) ?_
    refine x_getr X hw lx0 cX7 0 (by decide) rfl n_P_read_1 n_P_read_2 dX7_read_27 ?_
    refine x_cvv X hw [.ref (ad 1)] [] (c_Tape_prickInto l G ad hI σ1 hV) (cwV 1 X.2.2.2.2 gX7_read_X4_prickInto rfl rfl rfl hd_Tape_prickInto ⟨x_fr hR.1 rfl, x_fr hR.2 rfl⟩) lx53 cX4 rfl hl.1 rfl (Nat.le_of_ble_eq_true rfl) dX7_read_30 ⟨Nat.zero_le _, Nat.zero_le _⟩ (fun σ5 H locs hV hw => ?_)
    refine x_aload_n X dX7_read_33 rfl (lv_at hl 1 rfl) ?_
    refine x_cvv X hw [] [] (c_P_beginAnew l G ad hI σ5 hV) (cwV 0 X.2.2.2.2 gX7_read_X7_beginAnew rfl rfl rfl hd_P_beginAnew ⟨x_fr hR.1 rfl, x_fr hR.2 rfl⟩) lx0 cX7 rfl hl.1 rfl (Nat.le_of_ble_eq_true rfl) dX7_read_34 ⟨Nat.zero_le _, Nat.zero_le _⟩ (fun σ6 H locs hV hw => ?_)
    exact hJ37 σ6 H locs ls hV hw hl

set_option maxHeartbeats 4000000 in
set_option maxRecDepth 100000 in
theorem c_P_isKind (l : Launch) (G : GT) (ad : Nat → Nat) (hI : Inj LX ad) (σ : St) (a1 : Int) {Q : Int → St → Prop} (hV : V_P_isKind σ a1 Q) : Met l yX7_isKind wsX7_isKind (rmx 0 0) (Pq vwCl G LX ad σ [iV a1]) (Qz vwCl G LX ad Q) 0 0 (Ax LX ad) := by
  unfold V_P_isKind at hV
  refine x_metz (own := RX7) (by decide) rfl rfl (Nat.le_of_ble_eq_true rfl) hI ?_
  intro p e s m args below meth c R QQ X hR hret ls hl hw
  replace hl : lv_has ls 1 [(0, iV a1)] := hl
  obtain ⟨H, hH⟩ : ∃ z, z = s.heap := ⟨_, rfl⟩
  obtain ⟨locs, hlo⟩ : ∃ z : List Loc, z = [] := ⟨_, rfl⟩
  rw [← hH, ← hlo]
  replace hw : Wx vwCl G LX ad s H locs σ := by rw [hH, hlo]; exact hw
  clear hH hlo
  refine x_iload_n X dX7_isKind_0 rfl (lv_at hl 0 rfl) ?_
  refine x_if_lt X rfl 14 dX7_isKind_1 (by decide) (fun hc => ?_) (fun hc => ?_)
  · replace hV := hV.1 hc
    refine x_iconst X dX7_isKind_14 ?_
    exact hret 0 σ H locs ls 15 (by decide) hV hw dX7_isKind_15
  · replace hV := hV.2 hc
    refine x_iload_n X dX7_isKind_4 rfl (lv_at hl 0 rfl) ?_
    refine x_bipush X dX7_isKind_5 (by decide) ?_
    refine x_icmp_ge X rfl k32_6 14 dX7_isKind_7 (by decide) (fun hc => ?_) (fun hc => ?_)
    · replace hV := hV.1 hc
      refine x_iconst X dX7_isKind_14 ?_
      exact hret 0 σ H locs ls 15 (by decide) hV hw dX7_isKind_15
    · replace hV := hV.2 hc
      refine x_iconst X dX7_isKind_10 ?_
      refine x_goto X 15 dX7_isKind_11 (by decide) ?_
      exact hret 1 σ H locs ls 15 (by decide) hV hw dX7_isKind_15

theorem n_P_spell_0 : Cond.fieldLink RX7 65 "LacePillow" "tape" "LLacePillow$Tape;" ∈ wsX7_spell := by decide +kernel
theorem n_P_spell_1 : ∀ w ∈ wsX70, w ∈ wsX7_spell := by decide +kernel
theorem n_P_spell_2 : Cond.fieldLink RX7 106 "LacePillow$Tape" "size" "I" ∈ wsX7_spell := by decide +kernel
theorem n_P_spell_3 : ∀ w ∈ wsX40, w ∈ wsX7_spell := by decide +kernel
theorem n_P_spell_4 : Cond.fieldLink RX7 12 "LacePillow" "plan" "LLacePillow$Plan;" ∈ wsX7_spell := by decide +kernel
theorem n_P_spell_5 : Cond.fieldLink RX7 132 "LacePillow$Plan" "lengths" "[I" ∈ wsX7_spell := by decide +kernel
theorem n_P_spell_6 : ∀ w ∈ wsX20, w ∈ wsX7_spell := by decide +kernel
set_option maxHeartbeats 4000000 in
set_option maxRecDepth 100000 in
theorem c_P_spell (l : Launch) (G : GT) (ad : Nat → Nat) (hI : Inj LX ad) (σ : St) (a1 : Int) {Q : Int → St → Prop} (hV : V_P_spell σ a1 Q) : Met l yX7_spell wsX7_spell (rmx 5 119) (Pq vwCl G LX ad σ [.ref (ad 0), iV a1]) (Qi vwCl G LX ad Q) 0 0 (Ax LX ad) := by
  unfold V_P_spell at hV
  refine x_meti (own := RX7) (by decide) rfl rfl (Nat.le_of_ble_eq_true rfl) hI ?_
  intro p e s m args below meth c R QQ X hR hret ls hl hw
  replace hl : lv_has ls 3 [(0, .ref (ad 0)), (1, iV a1)] := hl
  obtain ⟨H, hH⟩ : ∃ z, z = s.heap := ⟨_, rfl⟩
  obtain ⟨locs, hlo⟩ : ∃ z : List Loc, z = [] := ⟨_, rfl⟩
  rw [← hH, ← hlo]
  replace hw : Wx vwCl G LX ad s H locs σ := by rw [hH, hlo]; exact hw
  clear hH hlo
  refine x_iload_n X dX7_spell_0 rfl (lv_at hl 1 rfl) ?_
  refine x_csz X hw [iV a1] [] (c_P_isKind l G ad hI σ a1 hV) (va_cwS 1 X.2.2.2.2 gX7_spell_X7_isKind rfl rfl rfl hd_P_isKind ⟨x_fr hR.1 rfl, x_fr hR.2 rfl⟩) rfl hl.1 rfl (Nat.le_of_ble_eq_true rfl) dX7_spell_1 ⟨Nat.zero_le _, Nat.zero_le _⟩ (fun r2 σ1 H locs hr2 hV hw => ?_)
  refine x_if_ne X rfl 13 dX7_spell_4 (by decide) (fun hc => ?_) (fun hc => ?_)
  · replace hV := hV.1 hc
    refine x_aload_n X dX7_spell_13 rfl (lv_at hl 0 rfl) ?_
    refine x_getr X hw lx0 cX7 10 (by decide) rfl n_P_spell_1 n_P_spell_0 dX7_spell_14 ?_
    refine x_cvi X hw [] [] (c_Tape_wordFault l G ad hI σ1 hV) (cwV 0 X.2.2.2.2 gX7_spell_X4_wordFault rfl rfl rfl hd_Tape_wordFault ⟨x_fr hR.1 rfl, x_fr hR.2 rfl⟩) lx53 cX4 rfl hl.1 rfl (Nat.le_of_ble_eq_true rfl) dX7_spell_17 ⟨Nat.zero_le _, Nat.zero_le _⟩ (fun r4 σ3 H locs hV hw => ?_)
    refine x_istore_n X [(2, iV r4), (0, .ref (ad 0)), (1, iV a1)] dX7_spell_20 rfl hl (by decide) rfl (fun ls hl => ?_)
    refine x_iload_n X dX7_spell_21 rfl (lv_at hl 0 rfl) ?_
    refine x_iconst X dX7_spell_22 ?_
    have hJ42 : ∀ (σ5 : St) (H : Heap) (locs : List Loc) (ls : Array Slot), J_P_spell_42 a1 Q r4 σ5 → Wx vwCl G LX ad s H locs σ5 → lv_has ls 3 [(2, iV r4), (0, .ref (ad 0)), (1, iV a1)] → W p l e R s m args below meth c H locs 0 0 QQ (F0 m 42 ls []) := by
      intro σ5 H locs ls hV hw hl
      unfold J_P_spell_42 at hV
      refine x_aload_n X dX7_spell_42 rfl (lv_at hl 1 rfl) ?_
      refine x_getr X hw lx0 cX7 10 (by decide) rfl n_P_spell_1 n_P_spell_0 dX7_spell_43 ?_
      refine x_iconst X dX7_spell_46 ?_
      refine x_puti X hw lx53 cX4 1 (by decide) rfl n_P_spell_3 n_P_spell_2 tyX4 tyX4_ok nmX4 rfl rfl rfl dX7_spell_47 (fun H locs σ6 hs hw => ?_)
      replace hV := hV σ6 hs
      refine x_iload_n X dX7_spell_50 rfl (lv_at hl 0 rfl) ?_
      refine x_iconst X dX7_spell_51 ?_
      refine x_icmp_ne X rfl k32_m1 67 dX7_spell_52 (by decide) (fun hc => ?_) (fun hc => ?_)
      · replace hV := hV.1 hc
        refine x_bipush X dX7_spell_67 (by decide) ?_
        refine x_iload_n X dX7_spell_69 rfl (lv_at hl 0 rfl) ?_
        refine x_isub X dX7_spell_70 ?_
        exact hret ((-10) - r4) σ6 H locs ls 71 hV hw dX7_spell_71
      · replace hV := hV.2 hc
        refine x_aload_n X dX7_spell_55 rfl (lv_at hl 1 rfl) ?_
        refine x_getr X hw lx0 cX7 0 (by decide) rfl n_P_spell_1 n_P_spell_4 dX7_spell_56 ?_
        refine x_getr X hw lx1 cX2 3 (by decide) rfl n_P_spell_6 n_P_spell_5 dX7_spell_59 ?_
        refine x_iload_n X dX7_spell_62 rfl (lv_at hl 2 rfl) ?_
        obtain ⟨hi, hV⟩ := hV
        refine x_iald X hw lx4 rfl rfl hi dX7_spell_63 ?_
        refine x_goto X 71 dX7_spell_64 (by decide) ?_
        exact hret (σ6 4 (i32 a1)) σ6 H locs ls 71 hV hw dX7_spell_71
    refine x_icmp_ne X rfl k32_m1 42 dX7_spell_23 (by decide) (fun hc => ?_) (fun hc => ?_)
    · replace hV := hV.1 hc
      exact hJ42 σ3 H locs ls hV hw hl
    · replace hV := hV.2 hc
      refine x_aload_n X dX7_spell_26 rfl (lv_at hl 1 rfl) ?_
      refine x_getr X hw lx0 cX7 10 (by decide) rfl n_P_spell_1 n_P_spell_0 dX7_spell_27 ?_
      refine x_aload_n X dX7_spell_30 rfl (lv_at hl 1 rfl) ?_
      refine x_getr X hw lx0 cX7 0 (by decide) rfl n_P_spell_1 n_P_spell_4 dX7_spell_31 ?_
      refine x_iload_n X dX7_spell_34 rfl (lv_at hl 2 rfl) ?_
      refine x_cvv X hw [.ref (ad 1), iV a1] [] (c_Tape_spellInto l G ad hI σ3 a1 hV) (cwV 2 X.2.2.2.2 gX7_spell_X4_spellInto rfl rfl rfl hd_Tape_spellInto ⟨x_fr hR.1 rfl, x_fr hR.2 rfl⟩) lx53 cX4 rfl hl.1 rfl (Nat.le_of_ble_eq_true rfl) dX7_spell_35 ⟨Nat.zero_le _, Nat.zero_le _⟩ (fun σ7 H locs hV hw => ?_)
      refine x_aload_n X dX7_spell_38 rfl (lv_at hl 1 rfl) ?_
      refine x_cvv X hw [] [] (c_P_beginAnew l G ad hI σ7 hV) (cwV 0 X.2.2.2.2 gX7_spell_X7_beginAnew rfl rfl rfl hd_P_beginAnew ⟨x_fr hR.1 rfl, x_fr hR.2 rfl⟩) lx0 cX7 rfl hl.1 rfl (Nat.le_of_ble_eq_true rfl) dX7_spell_39 ⟨Nat.zero_le _, Nat.zero_le _⟩ (fun σ8 H locs hV hw => ?_)
      exact hJ42 σ8 H locs ls hV hw hl
  · replace hV := hV.2 hc
    refine x_aload_n X dX7_spell_7 rfl (lv_at hl 0 rfl) ?_
    refine x_iconst X dX7_spell_8 ?_
    refine x_cvi X hw [iV 1] [] (c_P_fail l G ad hI σ1 1 hV) (cwV 1 X.2.2.2.2 gX7_spell_X7_fail rfl rfl rfl hd_P_fail ⟨x_fr hR.1 rfl, x_fr hR.2 rfl⟩) lx0 cX7 rfl hl.1 rfl (Nat.le_of_ble_eq_true rfl) dX7_spell_9 ⟨Nat.zero_le _, Nat.zero_le _⟩ (fun r10 σ9 H locs hV hw => ?_)
    exact hret r10 σ9 H locs ls 12 hV hw dX7_spell_12

theorem n_P_thinkWord_0 : Cond.fieldLink RX7 51 "LacePillow" "thought" "LLacePillow$Weave;" ∈ wsX7_thinkWord := by decide +kernel
theorem n_P_thinkWord_1 : ∀ w ∈ wsX70, w ∈ wsX7_thinkWord := by decide +kernel
theorem n_P_thinkWord_2 : Cond.fieldLink RX7 12 "LacePillow" "plan" "LLacePillow$Plan;" ∈ wsX7_thinkWord := by decide +kernel
theorem n_P_thinkWord_3 : Cond.fieldLink RX7 54 "LacePillow" "thoughtStitches" "I" ∈ wsX7_thinkWord := by decide +kernel
set_option maxHeartbeats 4000000 in
set_option maxRecDepth 100000 in
theorem c_P_thinkWord (l : Launch) (G : GT) (ad : Nat → Nat) (hI : Inj LX ad) (σ : St) (a1 : Int) {Q : St → Prop} (hV : V_P_thinkWord σ a1 Q) : Met l yX7_thinkWord wsX7_thinkWord (rmx 4 105) (Pq vwCl G LX ad σ [.ref (ad 0), iV a1]) (Qv vwCl G LX ad Q) 0 0 (Ax LX ad) := by
  unfold V_P_thinkWord at hV
  refine x_metv (own := RX7) (by decide) rfl rfl (Nat.le_of_ble_eq_true rfl) hI ?_
  intro p e s m args below meth c R QQ X hR hret ls hl hw
  replace hl : lv_has ls 2 [(0, .ref (ad 0)), (1, iV a1)] := hl
  obtain ⟨H, hH⟩ : ∃ z, z = s.heap := ⟨_, rfl⟩
  obtain ⟨locs, hlo⟩ : ∃ z : List Loc, z = [] := ⟨_, rfl⟩
  rw [← hH, ← hlo]
  replace hw : Wx vwCl G LX ad s H locs σ := by rw [hH, hlo]; exact hw
  clear hH hlo
  refine x_aload_n X dX7_thinkWord_0 rfl (lv_at hl 0 rfl) ?_
  refine x_getr X hw lx0 cX7 7 (by decide) rfl n_P_thinkWord_1 n_P_thinkWord_0 dX7_thinkWord_1 ?_
  refine x_cvv X hw [] [] (c_Weave_clear l G ad hI 41 isWeave41 σ hV) (cwV 0 X.2.2.2.2 gX7_thinkWord_X6_clear rfl rfl rfl hd_Weave_clear ⟨x_fr hR.1 rfl, x_fr hR.2 rfl⟩) lx41 cX6 rfl hl.1 rfl (Nat.le_of_ble_eq_true rfl) dX7_thinkWord_4 ⟨Nat.zero_le _, Nat.zero_le _⟩ (fun σ1 H locs hV hw => ?_)
  refine x_aload_n X dX7_thinkWord_7 rfl (lv_at hl 0 rfl) ?_
  refine x_getr X hw lx0 cX7 7 (by decide) rfl n_P_thinkWord_1 n_P_thinkWord_0 dX7_thinkWord_8 ?_
  refine x_aload_n X dX7_thinkWord_11 rfl (lv_at hl 0 rfl) ?_
  refine x_getr X hw lx0 cX7 0 (by decide) rfl n_P_thinkWord_1 n_P_thinkWord_2 dX7_thinkWord_12 ?_
  refine x_iload_n X dX7_thinkWord_15 rfl (lv_at hl 1 rfl) ?_
  refine x_iconst X dX7_thinkWord_16 ?_
  refine x_cvv X hw [.ref (ad 1), iV a1, iV 0] [] (c_Weave_make l G ad hI 41 isWeave41 σ1 a1 0 hV) (cwV 3 X.2.2.2.2 gX7_thinkWord_X6_make rfl rfl rfl hd_Weave_make ⟨x_fr hR.1 rfl, x_fr hR.2 rfl⟩) lx41 cX6 rfl hl.1 rfl (Nat.le_of_ble_eq_true rfl) dX7_thinkWord_17 ⟨Nat.zero_le _, Nat.zero_le _⟩ (fun σ2 H locs hV hw => ?_)
  refine x_aload_n X dX7_thinkWord_20 rfl (lv_at hl 0 rfl) ?_
  refine x_iconst X dX7_thinkWord_21 ?_
  refine x_puti X hw lx0 cX7 8 (by decide) rfl n_P_thinkWord_1 n_P_thinkWord_3 tyX7 tyX7_ok nmX7 rfl rfl rfl dX7_thinkWord_22 (fun H locs σ3 hs hw => ?_)
  replace hV := hV σ3 hs
  exact hret σ3 H locs ls 25 hV hw dX7_thinkWord_25

theorem n_P_word_0 : Cond.fieldLink RX7 51 "LacePillow" "thought" "LLacePillow$Weave;" ∈ wsX7_word := by decide +kernel
theorem n_P_word_1 : ∀ w ∈ wsX70, w ∈ wsX7_word := by decide +kernel
theorem n_P_word_2 : Cond.fieldLink RX7 150 "LacePillow$Weave" "places" "[I" ∈ wsX7_word := by decide +kernel
theorem n_P_word_3 : ∀ w ∈ wsX60, w ∈ wsX7_word := by decide +kernel
theorem n_P_word_4 : Cond.fieldLink RX7 142 "LacePillow$Weave" "heap" "LLacePillow$Heap;" ∈ wsX7_word := by decide +kernel
theorem n_P_word_5 : Cond.fieldLink RX7 145 "LacePillow$Heap" "size" "I" ∈ wsX7_word := by decide +kernel
theorem n_P_word_6 : ∀ w ∈ wsX10, w ∈ wsX7_word := by decide +kernel
theorem n_P_word_7 : Cond.fieldLink RX7 139 "LacePillow$Weave" "crossings" "I" ∈ wsX7_word := by decide +kernel
theorem n_P_word_8 : Cond.fieldLink RX7 12 "LacePillow" "plan" "LLacePillow$Plan;" ∈ wsX7_word := by decide +kernel
theorem n_P_word_9 : Cond.fieldLink RX7 132 "LacePillow$Plan" "lengths" "[I" ∈ wsX7_word := by decide +kernel
theorem n_P_word_10 : ∀ w ∈ wsX20, w ∈ wsX7_word := by decide +kernel
set_option maxHeartbeats 4000000 in
set_option maxRecDepth 100000 in
theorem c_P_word (l : Launch) (G : GT) (ad : Nat → Nat) (hI : Inj LX ad) (σ : St) (a1 : Int) (a2 : Int) {Q : Int → St → Prop} (hV : V_P_word σ a1 a2 Q) : Met l yX7_word wsX7_word (rmx 5 126) (Pq vwCl G LX ad σ [.ref (ad 0), iV a1, iV a2]) (Qi vwCl G LX ad Q) 0 0 (Ax LX ad) := by
  unfold V_P_word at hV
  refine x_meti (own := RX7) (by decide) rfl rfl (Nat.le_of_ble_eq_true rfl) hI ?_
  intro p e s m args below meth c R QQ X hR hret ls hl hw
  replace hl : lv_has ls 3 [(0, .ref (ad 0)), (1, iV a1), (2, iV a2)] := hl
  obtain ⟨H, hH⟩ : ∃ z, z = s.heap := ⟨_, rfl⟩
  obtain ⟨locs, hlo⟩ : ∃ z : List Loc, z = [] := ⟨_, rfl⟩
  rw [← hH, ← hlo]
  replace hw : Wx vwCl G LX ad s H locs σ := by rw [hH, hlo]; exact hw
  clear hH hlo
  refine x_iload_n X dX7_word_0 rfl (lv_at hl 1 rfl) ?_
  refine x_csz X hw [iV a1] [] (c_P_isKind l G ad hI σ a1 hV) (va_cwS 1 X.2.2.2.2 gX7_word_X7_isKind rfl rfl rfl hd_P_isKind ⟨x_fr hR.1 rfl, x_fr hR.2 rfl⟩) rfl hl.1 rfl (Nat.le_of_ble_eq_true rfl) dX7_word_1 ⟨Nat.zero_le _, Nat.zero_le _⟩ (fun r2 σ1 H locs hr2 hV hw => ?_)
  refine x_if_eq X rfl 17 dX7_word_4 (by decide) (fun hc => ?_) (fun hc => ?_)
  · replace hV := hV.1 hc
    refine x_aload_n X dX7_word_17 rfl (lv_at hl 0 rfl) ?_
    refine x_iconst X dX7_word_18 ?_
    refine x_cvi X hw [iV 1] [] (c_P_fail l G ad hI σ1 1 hV) (cwV 1 X.2.2.2.2 gX7_word_X7_fail rfl rfl rfl hd_P_fail ⟨x_fr hR.1 rfl, x_fr hR.2 rfl⟩) lx0 cX7 rfl hl.1 rfl (Nat.le_of_ble_eq_true rfl) dX7_word_19 ⟨Nat.zero_le _, Nat.zero_le _⟩ (fun r4 σ3 H locs hV hw => ?_)
    exact hret r4 σ3 H locs ls 22 hV hw dX7_word_22
  · replace hV := hV.2 hc
    refine x_iload_n X dX7_word_7 rfl (lv_at hl 2 rfl) ?_
    refine x_if_lt X rfl 17 dX7_word_8 (by decide) (fun hc => ?_) (fun hc => ?_)
    · replace hV := hV.1 hc
      refine x_aload_n X dX7_word_17 rfl (lv_at hl 0 rfl) ?_
      refine x_iconst X dX7_word_18 ?_
      refine x_cvi X hw [iV 1] [] (c_P_fail l G ad hI σ1 1 hV) (cwV 1 X.2.2.2.2 gX7_word_X7_fail rfl rfl rfl hd_P_fail ⟨x_fr hR.1 rfl, x_fr hR.2 rfl⟩) lx0 cX7 rfl hl.1 rfl (Nat.le_of_ble_eq_true rfl) dX7_word_19 ⟨Nat.zero_le _, Nat.zero_le _⟩ (fun r6 σ5 H locs hV hw => ?_)
      exact hret r6 σ5 H locs ls 22 hV hw dX7_word_22
    · replace hV := hV.2 hc
      refine x_iload_n X dX7_word_11 rfl (lv_at hl 2 rfl) ?_
      refine x_bipush X dX7_word_12 (by decide) ?_
      refine x_icmp_le X rfl k32_7 23 dX7_word_14 (by decide) (fun hc => ?_) (fun hc => ?_)
      · replace hV := hV.1 hc
        refine x_iload_n X dX7_word_23 rfl (lv_at hl 2 rfl) ?_
        refine x_if_ne X rfl 37 dX7_word_24 (by decide) (fun hc => ?_) (fun hc => ?_)
        · replace hV := hV.1 hc
          refine x_aload_n X dX7_word_37 rfl (lv_at hl 0 rfl) ?_
          refine x_iload_n X dX7_word_38 rfl (lv_at hl 1 rfl) ?_
          refine x_cvv X hw [iV a1] [] (c_P_thinkWord l G ad hI σ1 a1 hV) (cwV 1 X.2.2.2.2 gX7_word_X7_thinkWord rfl rfl rfl hd_P_thinkWord ⟨x_fr hR.1 rfl, x_fr hR.2 rfl⟩) lx0 cX7 rfl hl.1 rfl (Nat.le_of_ble_eq_true rfl) dX7_word_39 ⟨Nat.zero_le _, Nat.zero_le _⟩ (fun σ7 H locs hV hw => ?_)
          refine x_iload_n X dX7_word_42 rfl (lv_at hl 2 rfl) ?_
          refine x_iconst X dX7_word_43 ?_
          refine x_icmp_ne X rfl k32_1 55 dX7_word_44 (by decide) (fun hc => ?_) (fun hc => ?_)
          · replace hV := hV.1 hc
            refine x_iload_n X dX7_word_55 rfl (lv_at hl 2 rfl) ?_
            refine x_iconst X dX7_word_56 ?_
            refine x_icmp_ne X rfl k32_2 71 dX7_word_57 (by decide) (fun hc => ?_) (fun hc => ?_)
            · replace hV := hV.1 hc
              refine x_iload_n X dX7_word_71 rfl (lv_at hl 2 rfl) ?_
              refine x_iconst X dX7_word_72 ?_
              refine x_icmp_ne X rfl k32_3 85 dX7_word_73 (by decide) (fun hc => ?_) (fun hc => ?_)
              · replace hV := hV.1 hc
                refine x_aload_n X dX7_word_85 rfl (lv_at hl 0 rfl) ?_
                refine x_getr X hw lx0 cX7 7 (by decide) rfl n_P_word_1 n_P_word_0 dX7_word_86 ?_
                refine x_getr X hw lx41 cX6 1 (by decide) rfl n_P_word_3 n_P_word_2 dX7_word_89 ?_
                refine x_iload_n X dX7_word_92 rfl (lv_at hl 2 rfl) ?_
                refine x_iconst X dX7_word_93 ?_
                refine x_isub X dX7_word_94 ?_
                obtain ⟨hi, hV⟩ := hV
                refine x_iald X hw lx43 rfl rfl hi dX7_word_95 ?_
                exact hret (σ7 43 (i32 (a2 - 4))) σ7 H locs ls 96 hV hw dX7_word_96
              · replace hV := hV.2 hc
                refine x_aload_n X dX7_word_76 rfl (lv_at hl 0 rfl) ?_
                refine x_getr X hw lx0 cX7 7 (by decide) rfl n_P_word_1 n_P_word_0 dX7_word_77 ?_
                refine x_cvl X hw [] [] (c_Weave_commonTurns l G ad hI 41 isWeave41 σ7 hV) (cwV 0 X.2.2.2.2 gX7_word_X6_commonTurns rfl rfl rfl hd_Weave_commonTurns ⟨x_fr hR.1 rfl, x_fr hR.2 rfl⟩) lx41 cX6 rfl hl.1 rfl (Nat.le_of_ble_eq_true rfl) dX7_word_80 ⟨Nat.zero_le _, Nat.zero_le _⟩ (fun r9 σ8 H locs hV hw => ?_)
                refine x_l2i X dX7_word_83 ?_
                exact hret r9 σ8 H locs ls 84 hV hw dX7_word_84
            · replace hV := hV.2 hc
              refine x_aload_n X dX7_word_60 rfl (lv_at hl 0 rfl) ?_
              refine x_getr X hw lx0 cX7 7 (by decide) rfl n_P_word_1 n_P_word_0 dX7_word_61 ?_
              refine x_getr X hw lx41 cX6 8 (by decide) rfl n_P_word_3 n_P_word_4 dX7_word_64 ?_
              refine x_geti X hw lx50 cX1 0 (by decide) rfl n_P_word_6 n_P_word_5 dX7_word_67 ?_
              exact hret (σ7 50 0) σ7 H locs ls 70 hV hw dX7_word_70
          · replace hV := hV.2 hc
            refine x_aload_n X dX7_word_47 rfl (lv_at hl 0 rfl) ?_
            refine x_getr X hw lx0 cX7 7 (by decide) rfl n_P_word_1 n_P_word_0 dX7_word_48 ?_
            refine x_geti X hw lx41 cX6 9 (by decide) rfl n_P_word_3 n_P_word_7 dX7_word_51 ?_
            exact hret (σ7 41 9) σ7 H locs ls 54 hV hw dX7_word_54
        · replace hV := hV.2 hc
          refine x_aload_n X dX7_word_27 rfl (lv_at hl 0 rfl) ?_
          refine x_getr X hw lx0 cX7 0 (by decide) rfl n_P_word_1 n_P_word_8 dX7_word_28 ?_
          refine x_getr X hw lx1 cX2 3 (by decide) rfl n_P_word_10 n_P_word_9 dX7_word_31 ?_
          refine x_iload_n X dX7_word_34 rfl (lv_at hl 1 rfl) ?_
          obtain ⟨hi, hV⟩ := hV
          refine x_iald X hw lx4 rfl rfl hi dX7_word_35 ?_
          exact hret (σ1 4 (i32 a1)) σ1 H locs ls 36 hV hw dX7_word_36
      · replace hV := hV.2 hc
        refine x_aload_n X dX7_word_17 rfl (lv_at hl 0 rfl) ?_
        refine x_iconst X dX7_word_18 ?_
        refine x_cvi X hw [iV 1] [] (c_P_fail l G ad hI σ1 1 hV) (cwV 1 X.2.2.2.2 gX7_word_X7_fail rfl rfl rfl hd_P_fail ⟨x_fr hR.1 rfl, x_fr hR.2 rfl⟩) lx0 cX7 rfl hl.1 rfl (Nat.le_of_ble_eq_true rfl) dX7_word_19 ⟨Nat.zero_le _, Nat.zero_le _⟩ (fun r11 σ10 H locs hV hw => ?_)
        exact hret r11 σ10 H locs ls 22 hV hw dX7_word_22

theorem n_P_letter_0 : Cond.fieldLink RX7 12 "LacePillow" "plan" "LLacePillow$Plan;" ∈ wsX7_letter := by decide +kernel
theorem n_P_letter_1 : ∀ w ∈ wsX70, w ∈ wsX7_letter := by decide +kernel
theorem n_P_letter_2 : Cond.fieldLink RX7 132 "LacePillow$Plan" "lengths" "[I" ∈ wsX7_letter := by decide +kernel
theorem n_P_letter_3 : ∀ w ∈ wsX20, w ∈ wsX7_letter := by decide +kernel
theorem n_P_letter_4 : Cond.fieldLink RX7 153 "LacePillow$Plan" "letters" "[I" ∈ wsX7_letter := by decide +kernel
set_option maxHeartbeats 4000000 in
set_option maxRecDepth 100000 in
theorem c_P_letter (l : Launch) (G : GT) (ad : Nat → Nat) (hI : Inj LX ad) (σ : St) (a1 : Int) (a2 : Int) {Q : Int → St → Prop} (hV : V_P_letter σ a1 a2 Q) : Met l yX7_letter wsX7_letter (rmx 1 21) (Pq vwCl G LX ad σ [.ref (ad 0), iV a1, iV a2]) (Qi vwCl G LX ad Q) 0 0 (Ax LX ad) := by
  unfold V_P_letter at hV
  refine x_meti (own := RX7) (by decide) rfl rfl (Nat.le_of_ble_eq_true rfl) hI ?_
  intro p e s m args below meth c R QQ X hR hret ls hl hw
  replace hl : lv_has ls 3 [(0, .ref (ad 0)), (1, iV a1), (2, iV a2)] := hl
  obtain ⟨H, hH⟩ : ∃ z, z = s.heap := ⟨_, rfl⟩
  obtain ⟨locs, hlo⟩ : ∃ z : List Loc, z = [] := ⟨_, rfl⟩
  rw [← hH, ← hlo]
  replace hw : Wx vwCl G LX ad s H locs σ := by rw [hH, hlo]; exact hw
  clear hH hlo
  refine x_iload_n X dX7_letter_0 rfl (lv_at hl 1 rfl) ?_
  refine x_csz X hw [iV a1] [] (c_P_isKind l G ad hI σ a1 hV) (va_cwS 1 X.2.2.2.2 gX7_letter_X7_isKind rfl rfl rfl hd_P_isKind ⟨x_fr hR.1 rfl, x_fr hR.2 rfl⟩) rfl hl.1 rfl (Nat.le_of_ble_eq_true rfl) dX7_letter_1 ⟨Nat.zero_le _, Nat.zero_le _⟩ (fun r2 σ1 H locs hr2 hV hw => ?_)
  refine x_if_eq X rfl 24 dX7_letter_4 (by decide) (fun hc => ?_) (fun hc => ?_)
  · replace hV := hV.1 hc
    refine x_aload_n X dX7_letter_24 rfl (lv_at hl 0 rfl) ?_
    refine x_iconst X dX7_letter_25 ?_
    refine x_cvi X hw [iV 1] [] (c_P_fail l G ad hI σ1 1 hV) (cwV 1 X.2.2.2.2 gX7_letter_X7_fail rfl rfl rfl hd_P_fail ⟨x_fr hR.1 rfl, x_fr hR.2 rfl⟩) lx0 cX7 rfl hl.1 rfl (Nat.le_of_ble_eq_true rfl) dX7_letter_26 ⟨Nat.zero_le _, Nat.zero_le _⟩ (fun r4 σ3 H locs hV hw => ?_)
    exact hret r4 σ3 H locs ls 29 hV hw dX7_letter_29
  · replace hV := hV.2 hc
    refine x_iload_n X dX7_letter_7 rfl (lv_at hl 2 rfl) ?_
    refine x_if_lt X rfl 24 dX7_letter_8 (by decide) (fun hc => ?_) (fun hc => ?_)
    · replace hV := hV.1 hc
      refine x_aload_n X dX7_letter_24 rfl (lv_at hl 0 rfl) ?_
      refine x_iconst X dX7_letter_25 ?_
      refine x_cvi X hw [iV 1] [] (c_P_fail l G ad hI σ1 1 hV) (cwV 1 X.2.2.2.2 gX7_letter_X7_fail rfl rfl rfl hd_P_fail ⟨x_fr hR.1 rfl, x_fr hR.2 rfl⟩) lx0 cX7 rfl hl.1 rfl (Nat.le_of_ble_eq_true rfl) dX7_letter_26 ⟨Nat.zero_le _, Nat.zero_le _⟩ (fun r6 σ5 H locs hV hw => ?_)
      exact hret r6 σ5 H locs ls 29 hV hw dX7_letter_29
    · replace hV := hV.2 hc
      refine x_iload_n X dX7_letter_11 rfl (lv_at hl 2 rfl) ?_
      refine x_aload_n X dX7_letter_12 rfl (lv_at hl 0 rfl) ?_
      refine x_getr X hw lx0 cX7 0 (by decide) rfl n_P_letter_1 n_P_letter_0 dX7_letter_13 ?_
      refine x_getr X hw lx1 cX2 3 (by decide) rfl n_P_letter_3 n_P_letter_2 dX7_letter_16 ?_
      refine x_iload_n X dX7_letter_19 rfl (lv_at hl 1 rfl) ?_
      obtain ⟨hi, hV⟩ := hV
      refine x_iald X hw lx4 rfl rfl hi dX7_letter_20 ?_
      refine x_icmp_lt X rfl rfl 30 dX7_letter_21 (by decide) (fun hc => ?_) (fun hc => ?_)
      · replace hV := hV.1 hc
        refine x_aload_n X dX7_letter_30 rfl (lv_at hl 0 rfl) ?_
        refine x_getr X hw lx0 cX7 0 (by decide) rfl n_P_letter_1 n_P_letter_0 dX7_letter_31 ?_
        refine x_getr X hw lx1 cX2 2 (by decide) rfl n_P_letter_3 n_P_letter_4 dX7_letter_34 ?_
        refine x_iload_n X dX7_letter_37 rfl (lv_at hl 1 rfl) ?_
        refine x_bipush X dX7_letter_38 (by decide) ?_
        refine x_imul X dX7_letter_40 ?_
        refine x_iload_n X dX7_letter_41 rfl (lv_at hl 2 rfl) ?_
        refine x_iadd X dX7_letter_42 ?_
        obtain ⟨hi, hV⟩ := hV
        refine x_iald X hw lx3 rfl rfl hi dX7_letter_43 ?_
        exact hret (σ1 3 (i32 ((a1 * 8) + a2))) σ1 H locs ls 44 hV hw dX7_letter_44
      · replace hV := hV.2 hc
        refine x_aload_n X dX7_letter_24 rfl (lv_at hl 0 rfl) ?_
        refine x_iconst X dX7_letter_25 ?_
        refine x_cvi X hw [iV 1] [] (c_P_fail l G ad hI σ1 1 hV) (cwV 1 X.2.2.2.2 gX7_letter_X7_fail rfl rfl rfl hd_P_fail ⟨x_fr hR.1 rfl, x_fr hR.2 rfl⟩) lx0 cX7 rfl hl.1 rfl (Nat.le_of_ble_eq_true rfl) dX7_letter_26 ⟨Nat.zero_le _, Nat.zero_le _⟩ (fun r8 σ7 H locs hV hw => ?_)
        exact hret r8 σ7 H locs ls 29 hV hw dX7_letter_29
