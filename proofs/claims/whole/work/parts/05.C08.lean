theorem n_M_meet_0 : Cond.constant RX8 149 (-1000000001) ∈ wsX8_meet := by decide +kernel
theorem n_M_meet_1 : Cond.fieldLink RX8 120 "LacePillowModel" "many" "I" ∈ wsX8_meet := by decide +kernel
theorem n_M_meet_2 : ∀ w ∈ wsX80, w ∈ wsX8_meet := by decide +kernel
theorem n_M_meet_3 : Cond.fieldLink RX8 186 "LacePillowModel" "crossings" "I" ∈ wsX8_meet := by decide +kernel
theorem n_M_meet_4 : Cond.constant RX8 249 (-1000000002) ∈ wsX8_meet := by decide +kernel
theorem n_M_meet_5 : Cond.fieldLink RX8 53 "LacePillowModel" "over" "[I" ∈ wsX8_meet := by decide +kernel
theorem n_M_meet_6 : Cond.fieldLink RX8 56 "LacePillowModel" "under" "[I" ∈ wsX8_meet := by decide +kernel
theorem n_M_meet_7 : Cond.fieldLink RX8 59 "LacePillowModel" "by" "[I" ∈ wsX8_meet := by decide +kernel
set_option maxHeartbeats 4000000 in
set_option maxRecDepth 100000 in
theorem c_M_meet (l : Launch) (G : GT) (ad : Nat → Nat) (hI : Inj LM ad) (σ : St) (a1 : Int) (a2 : Int) {Q : Int → St → Prop} (hV : V_M_meet σ a1 a2 Q) : Met l yX8_meet wsX8_meet (rmx 4 95) (Pq vwCl G LM ad σ [.ref (ad 0), iV a1, iV a2]) (Qi vwCl G LM ad Q) 0 0 (Ax LM ad) := by
  unfold V_M_meet at hV
  refine x_meti (own := RX8) (by decide) rfl rfl (Nat.le_of_ble_eq_true rfl) hI ?_
  intro p e s m args below meth c R QQ X hR hret ls hl hw
  replace hl : lv_has ls 4 [(0, .ref (ad 0)), (1, iV a1), (2, iV a2)] := hl
  obtain ⟨H, hH⟩ : ∃ z, z = s.heap := ⟨_, rfl⟩
  obtain ⟨locs, hlo⟩ : ∃ z : List Loc, z = [] := ⟨_, rfl⟩
  rw [← hH, ← hlo]
  replace hw : Wx vwCl G LM ad s H locs σ := by rw [hH, hlo]; exact hw
  clear hH hlo
  refine x_aload_n X dX8_meet_0 rfl (lv_at hl 0 rfl) ?_
  refine x_iload_n X dX8_meet_1 rfl (lv_at hl 1 rfl) ?_
  refine x_cvz X hw [iV a1] [] (c_M_isThread l G ad hI σ a1 hV) (cwV 1 X.2.2.2.2 gX8_meet_X8_isThread rfl rfl rfl hd_M_isThread ⟨x_fr hR.1 rfl, x_fr hR.2 rfl⟩) lm0 cX8 rfl hl.1 rfl (Nat.le_of_ble_eq_true rfl) dX8_meet_2 ⟨Nat.zero_le _, Nat.zero_le _⟩ (fun r2 σ1 H locs hr2 hV hw => ?_)
  refine x_if_eq X rfl 21 dX8_meet_5 (by decide) (fun hc => ?_) (fun hc => ?_)
  · replace hV := hV.1 hc
    refine x_aload_n X dX8_meet_21 rfl (lv_at hl 0 rfl) ?_
    refine x_ldc X (-1000000001) n_M_meet_0 (by decide) dX8_meet_22 ?_
    refine x_cvi X hw [iV (-1000000001)] [] (c_M_errs l G ad hI σ1 (-1000000001) hV) (cwV 1 X.2.2.2.2 gX8_meet_X8_errs rfl rfl rfl hd_M_errs ⟨x_fr hR.1 rfl, x_fr hR.2 rfl⟩) lm0 cX8 rfl hl.1 rfl (Nat.le_of_ble_eq_true rfl) dX8_meet_24 ⟨Nat.zero_le _, Nat.zero_le _⟩ (fun r4 σ3 H locs hV hw => ?_)
    exact hret r4 σ3 H locs ls 27 hV hw dX8_meet_27
  · replace hV := hV.2 hc
    refine x_aload_n X dX8_meet_8 rfl (lv_at hl 0 rfl) ?_
    refine x_iload_n X dX8_meet_9 rfl (lv_at hl 2 rfl) ?_
    refine x_cvz X hw [iV a2] [] (c_M_isThread l G ad hI σ1 a2 hV) (cwV 1 X.2.2.2.2 gX8_meet_X8_isThread rfl rfl rfl hd_M_isThread ⟨x_fr hR.1 rfl, x_fr hR.2 rfl⟩) lm0 cX8 rfl hl.1 rfl (Nat.le_of_ble_eq_true rfl) dX8_meet_10 ⟨Nat.zero_le _, Nat.zero_le _⟩ (fun r6 σ5 H locs hr6 hV hw => ?_)
    refine x_if_eq X rfl 21 dX8_meet_13 (by decide) (fun hc => ?_) (fun hc => ?_)
    · replace hV := hV.1 hc
      refine x_aload_n X dX8_meet_21 rfl (lv_at hl 0 rfl) ?_
      refine x_ldc X (-1000000001) n_M_meet_0 (by decide) dX8_meet_22 ?_
      refine x_cvi X hw [iV (-1000000001)] [] (c_M_errs l G ad hI σ5 (-1000000001) hV) (cwV 1 X.2.2.2.2 gX8_meet_X8_errs rfl rfl rfl hd_M_errs ⟨x_fr hR.1 rfl, x_fr hR.2 rfl⟩) lm0 cX8 rfl hl.1 rfl (Nat.le_of_ble_eq_true rfl) dX8_meet_24 ⟨Nat.zero_le _, Nat.zero_le _⟩ (fun r8 σ7 H locs hV hw => ?_)
      exact hret r8 σ7 H locs ls 27 hV hw dX8_meet_27
    · replace hV := hV.2 hc
      refine x_iload_n X dX8_meet_16 rfl (lv_at hl 1 rfl) ?_
      refine x_iload_n X dX8_meet_17 rfl (lv_at hl 2 rfl) ?_
      refine x_icmp_ne X rfl rfl 28 dX8_meet_18 (by decide) (fun hc => ?_) (fun hc => ?_)
      · replace hV := hV.1 hc
        refine x_aload_n X dX8_meet_28 rfl (lv_at hl 0 rfl) ?_
        refine x_aload_n X dX8_meet_29 rfl (lv_at hl 0 rfl) ?_
        refine x_geti X hw lm0 cX8 5 (by decide) rfl n_M_meet_2 n_M_meet_1 dX8_meet_30 ?_
        refine x_cvv X hw [iV (σ5 0 5)] [] (c_M_first l G ad hI σ5 (σ5 0 5) hV) (cwV 1 X.2.2.2.2 gX8_meet_X8_first rfl rfl rfl hd_M_first ⟨x_fr hR.1 rfl, x_fr hR.2 rfl⟩) lm0 cX8 rfl hl.1 rfl (Nat.le_of_ble_eq_true rfl) dX8_meet_33 ⟨Nat.zero_le _, Nat.zero_le _⟩ (fun σ9 H locs hV hw => ?_)
        refine x_iconst X dX8_meet_36 ?_
        refine x_istore_n X [(3, iV 0), (0, .ref (ad 0)), (1, iV a1), (2, iV a2)] dX8_meet_37 rfl hl (by decide) rfl (fun ls hl => ?_)
        refine WL1.use (Gl := fun x3_10 σ11 => ∀ (H : Heap) (locs : List Loc) (ls : Array Slot), Wx vwCl G LM ad s H locs σ11 → lv_has ls 4 [(3, iV x3_10), (0, .ref (ad 0)), (1, iV a1), (2, iV a2)] → W p l e R s m args below meth c H locs 0 0 QQ (F0 m 38 ls [])) ?_ hV H locs ls hw hl
        clear hV hw hl H locs ls
        intro bk12 x3_10 σ11 hbk12 hV H locs ls hw hl
        refine x_iload_n X dX8_meet_38 rfl (lv_at hl 0 rfl) ?_
        refine x_aload_n X dX8_meet_39 rfl (lv_at hl 1 rfl) ?_
        refine x_geti X hw lm0 cX8 15 (by decide) rfl n_M_meet_2 n_M_meet_3 dX8_meet_40 ?_
        refine x_icmp_ge X rfl rfl 99 dX8_meet_43 (by decide) (fun hc => ?_) (fun hc => ?_)
        · replace hV := hV.1 hc
          refine x_aload_n X dX8_meet_99 rfl (lv_at hl 1 rfl) ?_
          refine x_ldc X (-1000000002) n_M_meet_4 (by decide) dX8_meet_100 ?_
          refine x_cvi X hw [iV (-1000000002)] [] (c_M_errs l G ad hI σ11 (-1000000002) hV) (cwV 1 X.2.2.2.2 gX8_meet_X8_errs rfl rfl rfl hd_M_errs ⟨x_fr hR.1 rfl, x_fr hR.2 rfl⟩) lm0 cX8 rfl hl.1 rfl (Nat.le_of_ble_eq_true rfl) dX8_meet_102 ⟨Nat.zero_le _, Nat.zero_le _⟩ (fun r14 σ13 H locs hV hw => ?_)
          exact hret r14 σ13 H locs ls 105 hV hw dX8_meet_105
        · replace hV := hV.2 hc
          refine x_aload_n X dX8_meet_46 rfl (lv_at hl 1 rfl) ?_
          refine x_getr X hw lm0 cX8 18 (by decide) rfl n_M_meet_2 n_M_meet_5 dX8_meet_47 ?_
          refine x_iload_n X dX8_meet_50 rfl (lv_at hl 0 rfl) ?_
          obtain ⟨hi, hV⟩ := hV
          refine x_iald X hw lm15 rfl rfl hi dX8_meet_51 ?_
          refine x_iload_n X dX8_meet_52 rfl (lv_at hl 2 rfl) ?_
          have hJ66 : ∀ (σ15 : St) (H : Heap) (locs : List Loc) (ls : Array Slot), J_M_meet_66 a1 a2 Q x3_10 bk12 σ15 → Wx vwCl G LM ad s H locs σ15 → lv_has ls 4 [(3, iV x3_10), (0, .ref (ad 0)), (1, iV a1), (2, iV a2)] → W p l e R s m args below meth c H locs 0 0 QQ (F0 m 66 ls []) := by
            intro σ15 H locs ls hV hw hl
            unfold J_M_meet_66 at hV
            refine x_aload_n X dX8_meet_66 rfl (lv_at hl 1 rfl) ?_
            refine x_getr X hw lm0 cX8 18 (by decide) rfl n_M_meet_2 n_M_meet_5 dX8_meet_67 ?_
            refine x_iload_n X dX8_meet_70 rfl (lv_at hl 0 rfl) ?_
            obtain ⟨hi, hV⟩ := hV
            refine x_iald X hw lm15 rfl rfl hi dX8_meet_71 ?_
            refine x_iload_n X dX8_meet_72 rfl (lv_at hl 3 rfl) ?_
            refine x_icmp_ne X rfl rfl 93 dX8_meet_73 (by decide) (fun hc => ?_) (fun hc => ?_)
            · replace hV := hV.1 hc
              refine x_iinc X (k := 0) (x3_10 + 1) [(3, iV (x3_10 + 1)), (0, .ref (ad 0)), (1, iV a1), (2, iV a2)] dX8_meet_93 hl rfl rfl (by decide) rfl (fun ls hl => ?_)
              refine x_goto X 38 dX8_meet_96 (by decide) ?_
              exact hbk12 (x3_10 + 1) σ15 hV H locs ls hw hl
            · replace hV := hV.2 hc
              refine x_aload_n X dX8_meet_76 rfl (lv_at hl 1 rfl) ?_
              refine x_getr X hw lm0 cX8 19 (by decide) rfl n_M_meet_2 n_M_meet_6 dX8_meet_77 ?_
              refine x_iload_n X dX8_meet_80 rfl (lv_at hl 0 rfl) ?_
              obtain ⟨hi, hV⟩ := hV
              refine x_iald X hw lm16 rfl rfl hi dX8_meet_81 ?_
              refine x_iload_n X dX8_meet_82 rfl (lv_at hl 2 rfl) ?_
              refine x_icmp_ne X rfl rfl 93 dX8_meet_83 (by decide) (fun hc => ?_) (fun hc => ?_)
              · replace hV := hV.1 hc
                refine x_iinc X (k := 0) (x3_10 + 1) [(3, iV (x3_10 + 1)), (0, .ref (ad 0)), (1, iV a1), (2, iV a2)] dX8_meet_93 hl rfl rfl (by decide) rfl (fun ls hl => ?_)
                refine x_goto X 38 dX8_meet_96 (by decide) ?_
                exact hbk12 (x3_10 + 1) σ15 hV H locs ls hw hl
              · replace hV := hV.2 hc
                refine x_aload_n X dX8_meet_86 rfl (lv_at hl 1 rfl) ?_
                refine x_getr X hw lm0 cX8 20 (by decide) rfl n_M_meet_2 n_M_meet_7 dX8_meet_87 ?_
                refine x_iload_n X dX8_meet_90 rfl (lv_at hl 0 rfl) ?_
                obtain ⟨hi, hV⟩ := hV
                refine x_iald X hw lm17 rfl rfl hi dX8_meet_91 ?_
                exact hret (σ15 17 (i32 x3_10)) σ15 H locs ls 92 hV hw dX8_meet_92
          refine x_icmp_ne X rfl rfl 66 dX8_meet_53 (by decide) (fun hc => ?_) (fun hc => ?_)
          · replace hV := hV.1 hc
            exact hJ66 σ11 H locs ls hV hw hl
          · replace hV := hV.2 hc
            refine x_aload_n X dX8_meet_56 rfl (lv_at hl 1 rfl) ?_
            refine x_getr X hw lm0 cX8 19 (by decide) rfl n_M_meet_2 n_M_meet_6 dX8_meet_57 ?_
            refine x_iload_n X dX8_meet_60 rfl (lv_at hl 0 rfl) ?_
            obtain ⟨hi, hV⟩ := hV
            refine x_iald X hw lm16 rfl rfl hi dX8_meet_61 ?_
            refine x_iload_n X dX8_meet_62 rfl (lv_at hl 3 rfl) ?_
            refine x_icmp_eq X rfl rfl 86 dX8_meet_63 (by decide) (fun hc => ?_) (fun hc => ?_)
            · replace hV := hV.1 hc
              refine x_aload_n X dX8_meet_86 rfl (lv_at hl 1 rfl) ?_
              refine x_getr X hw lm0 cX8 20 (by decide) rfl n_M_meet_2 n_M_meet_7 dX8_meet_87 ?_
              refine x_iload_n X dX8_meet_90 rfl (lv_at hl 0 rfl) ?_
              obtain ⟨hi, hV⟩ := hV
              refine x_iald X hw lm17 rfl rfl hi dX8_meet_91 ?_
              exact hret (σ11 17 (i32 x3_10)) σ11 H locs ls 92 hV hw dX8_meet_92
            · replace hV := hV.2 hc
              exact hJ66 σ11 H locs ls hV hw hl
      · replace hV := hV.2 hc
        refine x_aload_n X dX8_meet_21 rfl (lv_at hl 0 rfl) ?_
        refine x_ldc X (-1000000001) n_M_meet_0 (by decide) dX8_meet_22 ?_
        refine x_cvi X hw [iV (-1000000001)] [] (c_M_errs l G ad hI σ5 (-1000000001) hV) (cwV 1 X.2.2.2.2 gX8_meet_X8_errs rfl rfl rfl hd_M_errs ⟨x_fr hR.1 rfl, x_fr hR.2 rfl⟩) lm0 cX8 rfl hl.1 rfl (Nat.le_of_ble_eq_true rfl) dX8_meet_24 ⟨Nat.zero_le _, Nat.zero_le _⟩ (fun r17 σ16 H locs hV hw => ?_)
        exact hret r17 σ16 H locs ls 27 hV hw dX8_meet_27

theorem n_M_lacks_0 : Cond.fieldLink RX8 120 "LacePillowModel" "many" "I" ∈ wsX8_lacks := by decide +kernel
theorem n_M_lacks_1 : ∀ w ∈ wsX80, w ∈ wsX8_lacks := by decide +kernel
theorem n_M_lacks_2 : Cond.constant RX8 249 (-1000000002) ∈ wsX8_lacks := by decide +kernel
theorem n_M_lacks_3 : Cond.fieldLink RX8 44 "LacePillowModel" "used" "[I" ∈ wsX8_lacks := by decide +kernel
theorem n_M_lacks_4 : Cond.fieldLink RX8 9 "LacePillowModel" "now" "[I" ∈ wsX8_lacks := by decide +kernel
theorem n_M_lacks_5 : Cond.constant RX8 149 (-1000000001) ∈ wsX8_lacks := by decide +kernel
set_option maxHeartbeats 4000000 in
set_option maxRecDepth 100000 in
theorem c_M_lacks (l : Launch) (G : GT) (ad : Nat → Nat) (hI : Inj LM ad) (σ : St) (a1 : Int) {Q : Int → St → Prop} (hV : V_M_lacks σ a1 Q) : Met l yX8_lacks wsX8_lacks (rmx 3 73) (Pq vwCl G LM ad σ [.ref (ad 0), iV a1]) (Qi vwCl G LM ad Q) 0 0 (Ax LM ad) := by
  unfold V_M_lacks at hV
  refine x_meti (own := RX8) (by decide) rfl rfl (Nat.le_of_ble_eq_true rfl) hI ?_
  intro p e s m args below meth c R QQ X hR hret ls hl hw
  replace hl : lv_has ls 4 [(0, .ref (ad 0)), (1, iV a1)] := hl
  obtain ⟨H, hH⟩ : ∃ z, z = s.heap := ⟨_, rfl⟩
  obtain ⟨locs, hlo⟩ : ∃ z : List Loc, z = [] := ⟨_, rfl⟩
  rw [← hH, ← hlo]
  replace hw : Wx vwCl G LM ad s H locs σ := by rw [hH, hlo]; exact hw
  clear hH hlo
  refine x_iload_n X dX8_lacks_0 rfl (lv_at hl 1 rfl) ?_
  refine x_i2l X dX8_lacks_1 ?_
  refine x_lconst X 0 dX8_lacks_2 rfl ?_
  refine x_lconst X 1 dX8_lacks_3 rfl ?_
  refine x_csz X hw [lV (i32 a1), lV 0, lV 1] [] (c_M_in l G ad hI σ (i32 a1) 0 1 hV) (va_cwS 3 X.2.2.2.2 gX8_lacks_X8_in rfl rfl rfl hd_M_in ⟨x_fr hR.1 rfl, x_fr hR.2 rfl⟩) rfl hl.1 rfl (Nat.le_of_ble_eq_true rfl) dX8_lacks_4 ⟨Nat.zero_le _, Nat.zero_le _⟩ (fun r2 σ1 H locs hr2 hV hw => ?_)
  refine x_if_ne X rfl 17 dX8_lacks_7 (by decide) (fun hc => ?_) (fun hc => ?_)
  · replace hV := hV.1 hc
    refine x_aload_n X dX8_lacks_17 rfl (lv_at hl 0 rfl) ?_
    refine x_cvv X hw [] [] (c_M_begins l G ad hI σ1 hV) (cwV 0 X.2.2.2.2 gX8_lacks_X8_begins rfl rfl rfl hd_M_begins ⟨x_fr hR.1 rfl, x_fr hR.2 rfl⟩) lm0 cX8 rfl hl.1 rfl (Nat.le_of_ble_eq_true rfl) dX8_lacks_18 ⟨Nat.zero_le _, Nat.zero_le _⟩ (fun σ3 H locs hV hw => ?_)
    refine x_iconst X dX8_lacks_21 ?_
    refine x_istore_n X [(2, iV 0), (0, .ref (ad 0)), (1, iV a1)] dX8_lacks_22 rfl hl (by decide) rfl (fun ls hl => ?_)
    refine WL1.use (Gl := fun x2_4 σ5 => ∀ (H : Heap) (locs : List Loc) (ls : Array Slot), Wx vwCl G LM ad s H locs σ5 → lv_has ls 4 [(2, iV x2_4), (0, .ref (ad 0)), (1, iV a1)] → W p l e R s m args below meth c H locs 0 0 QQ (F0 m 23 ls [])) ?_ hV H locs ls hw hl
    clear hV hw hl H locs ls
    intro bk6 x2_4 σ5 hbk6 hV H locs ls hw hl
    refine x_iload_n X dX8_lacks_23 rfl (lv_at hl 0 rfl) ?_
    refine x_aload_n X dX8_lacks_24 rfl (lv_at hl 1 rfl) ?_
    refine x_geti X hw lm0 cX8 5 (by decide) rfl n_M_lacks_1 n_M_lacks_0 dX8_lacks_25 ?_
    refine x_icmp_ge X rfl rfl 88 dX8_lacks_28 (by decide) (fun hc => ?_) (fun hc => ?_)
    · replace hV := hV.1 hc
      refine x_aload_n X dX8_lacks_88 rfl (lv_at hl 1 rfl) ?_
      refine x_ldc X (-1000000002) n_M_lacks_2 (by decide) dX8_lacks_89 ?_
      refine x_cvi X hw [iV (-1000000002)] [] (c_M_errs l G ad hI σ5 (-1000000002) hV) (cwV 1 X.2.2.2.2 gX8_lacks_X8_errs rfl rfl rfl hd_M_errs ⟨x_fr hR.1 rfl, x_fr hR.2 rfl⟩) lm0 cX8 rfl hl.1 rfl (Nat.le_of_ble_eq_true rfl) dX8_lacks_91 ⟨Nat.zero_le _, Nat.zero_le _⟩ (fun r8 σ7 H locs hV hw => ?_)
      exact hret r8 σ7 H locs ls 94 hV hw dX8_lacks_94
    · replace hV := hV.2 hc
      refine x_aload_n X dX8_lacks_31 rfl (lv_at hl 1 rfl) ?_
      refine x_iload_n X dX8_lacks_32 rfl (lv_at hl 0 rfl) ?_
      refine x_iconst X dX8_lacks_33 ?_
      refine x_cvv X hw [iV x2_4, iV 1] [] (c_M_works l G ad hI σ5 x2_4 1 hV) (cwV 2 X.2.2.2.2 gX8_lacks_X8_works rfl rfl rfl hd_M_works ⟨x_fr hR.1 rfl, x_fr hR.2 rfl⟩) lm0 cX8 rfl hl.1 rfl (Nat.le_of_ble_eq_true rfl) dX8_lacks_34 ⟨Nat.zero_le _, Nat.zero_le _⟩ (fun σ9 H locs hV hw => ?_)
      refine x_iconst X dX8_lacks_37 ?_
      refine x_istore_n X [(3, iV 0), (2, iV x2_4), (0, .ref (ad 0)), (1, iV a1)] dX8_lacks_38 rfl hl (by decide) rfl (fun ls hl => ?_)
      refine WL1.use (Gl := fun x3_10 σ11 => ∀ (H : Heap) (locs : List Loc) (ls : Array Slot), Wx vwCl G LM ad s H locs σ11 → lv_has ls 4 [(3, iV x3_10), (2, iV x2_4), (0, .ref (ad 0)), (1, iV a1)] → W p l e R s m args below meth c H locs 0 0 QQ (F0 m 39 ls [])) ?_ hV H locs ls hw hl
      clear hV hw hl H locs ls
      intro bk12 x3_10 σ11 hbk12 hV H locs ls hw hl
      refine x_iload_n X dX8_lacks_39 rfl (lv_at hl 0 rfl) ?_
      refine x_aload_n X dX8_lacks_40 rfl (lv_at hl 2 rfl) ?_
      refine x_cvi X hw [] [iV x3_10] (c_M_threads l G ad hI σ11 hV) (cwV 0 X.2.2.2.2 gX8_lacks_X8_threads rfl rfl rfl hd_M_threads ⟨x_fr hR.1 rfl, x_fr hR.2 rfl⟩) lm0 cX8 rfl hl.1 rfl (Nat.le_of_ble_eq_true rfl) dX8_lacks_41 ⟨Nat.zero_le _, Nat.zero_le _⟩ (fun r14 σ13 H locs hV hw => ?_)
      refine x_icmp_ge X rfl rfl 82 dX8_lacks_44 (by decide) (fun hc => ?_) (fun hc => ?_)
      · replace hV := hV.1 hc
        refine x_iinc X (k := 1) (x2_4 + 1) [(2, iV (x2_4 + 1)), (3, iV x3_10), (0, .ref (ad 0)), (1, iV a1)] dX8_lacks_82 hl rfl rfl (by decide) rfl (fun ls hl => ?_)
        refine x_goto X 23 dX8_lacks_85 (by decide) ?_
        exact hbk6 (x2_4 + 1) σ13 hV H locs ls hw (lv_sub hl [0, 2, 3] rfl)
      · replace hV := hV.2 hc
        refine x_aload_n X dX8_lacks_47 rfl (lv_at hl 2 rfl) ?_
        refine x_getr X hw lm0 cX8 14 (by decide) rfl n_M_lacks_1 n_M_lacks_3 dX8_lacks_48 ?_
        refine x_iload_n X dX8_lacks_51 rfl (lv_at hl 0 rfl) ?_
        obtain ⟨hi, hV⟩ := hV
        refine x_iald X hw lm12 rfl rfl hi dX8_lacks_52 ?_
        refine x_aload_n X dX8_lacks_53 rfl (lv_at hl 2 rfl) ?_
        refine x_getr X hw lm0 cX8 0 (by decide) rfl n_M_lacks_1 n_M_lacks_4 dX8_lacks_54 ?_
        refine x_sipush X dX8_lacks_57 (by decide) ?_
        refine x_iload_n X dX8_lacks_60 rfl (lv_at hl 0 rfl) ?_
        refine x_iadd X dX8_lacks_61 ?_
        obtain ⟨hi, hV⟩ := hV
        refine x_iald X hw lm1 rfl rfl hi dX8_lacks_62 ?_
        refine x_icmp_le X rfl rfl 76 dX8_lacks_63 (by decide) (fun hc => ?_) (fun hc => ?_)
        · replace hV := hV.1 hc
          refine x_iinc X (k := 0) (x3_10 + 1) [(3, iV (x3_10 + 1)), (2, iV x2_4), (0, .ref (ad 0)), (1, iV a1)] dX8_lacks_76 hl rfl rfl (by decide) rfl (fun ls hl => ?_)
          refine x_goto X 39 dX8_lacks_79 (by decide) ?_
          exact hbk12 (x3_10 + 1) σ13 hV H locs ls hw hl
        · replace hV := hV.2 hc
          refine x_iload_n X dX8_lacks_66 rfl (lv_at hl 3 rfl) ?_
          refine x_if_ne X rfl 74 dX8_lacks_67 (by decide) (fun hc => ?_) (fun hc => ?_)
          · replace hV := hV.1 hc
            refine x_iload_n X dX8_lacks_74 rfl (lv_at hl 0 rfl) ?_
            exact hret x3_10 σ13 H locs ls 75 hV hw dX8_lacks_75
          · replace hV := hV.2 hc
            refine x_iload_n X dX8_lacks_70 rfl (lv_at hl 1 rfl) ?_
            refine x_goto X 75 dX8_lacks_71 (by decide) ?_
            exact hret x2_4 σ13 H locs ls 75 hV hw dX8_lacks_75
  · replace hV := hV.2 hc
    refine x_aload_n X dX8_lacks_10 rfl (lv_at hl 0 rfl) ?_
    refine x_ldc X (-1000000001) n_M_lacks_5 (by decide) dX8_lacks_11 ?_
    refine x_cvi X hw [iV (-1000000001)] [] (c_M_errs l G ad hI σ1 (-1000000001) hV) (cwV 1 X.2.2.2.2 gX8_lacks_X8_errs rfl rfl rfl hd_M_errs ⟨x_fr hR.1 rfl, x_fr hR.2 rfl⟩) lm0 cX8 rfl hl.1 rfl (Nat.le_of_ble_eq_true rfl) dX8_lacks_13 ⟨Nat.zero_le _, Nat.zero_le _⟩ (fun r16 σ15 H locs hV hw => ?_)
    exact hret r16 σ15 H locs ls 16 hV hw dX8_lacks_16

theorem n_M_lace_0 : Cond.constant RX8 149 (-1000000001) ∈ wsX8_lace := by decide +kernel
theorem n_M_lace_1 : Cond.constantLong RX8 314 (3) ∈ wsX8_lace := by decide +kernel
theorem n_M_lace_2 : Cond.fieldLink RX8 210 "LacePillowModel" "left" "I" ∈ wsX8_lace := by decide +kernel
theorem n_M_lace_3 : ∀ w ∈ wsX80, w ∈ wsX8_lace := by decide +kernel
theorem n_M_lace_4 : Cond.fieldLink RX8 186 "LacePillowModel" "crossings" "I" ∈ wsX8_lace := by decide +kernel
theorem n_M_lace_5 : Cond.fieldLink RX8 65 "LacePillowModel" "leftSign" "[I" ∈ wsX8_lace := by decide +kernel
set_option maxHeartbeats 4000000 in
set_option maxRecDepth 100000 in
theorem c_M_lace (l : Launch) (G : GT) (ad : Nat → Nat) (hI : Inj LM ad) (σ : St) (a1 : Int) (a2 : Int) {Q : Int → St → Prop} (hV : V_M_lace σ a1 a2 Q) : Met l yX8_lace wsX8_lace (rmx 5 116) (Pq vwCl G LM ad σ [.ref (ad 0), iV a1, iV a2]) (Qi vwCl G LM ad Q) 0 0 (Ax LM ad) := by
  unfold V_M_lace at hV
  refine x_meti (own := RX8) (by decide) rfl rfl (Nat.le_of_ble_eq_true rfl) hI ?_
  intro p e s m args below meth c R QQ X hR hret ls hl hw
  replace hl : lv_has ls 6 [(0, .ref (ad 0)), (1, iV a1), (2, iV a2)] := hl
  obtain ⟨H, hH⟩ : ∃ z, z = s.heap := ⟨_, rfl⟩
  obtain ⟨locs, hlo⟩ : ∃ z : List Loc, z = [] := ⟨_, rfl⟩
  rw [← hH, ← hlo]
  replace hw : Wx vwCl G LM ad s H locs σ := by rw [hH, hlo]; exact hw
  clear hH hlo
  refine x_iload_n X dX8_lace_0 rfl (lv_at hl 1 rfl) ?_
  refine x_i2l X dX8_lace_1 ?_
  refine x_lconst X 0 dX8_lace_2 rfl ?_
  refine x_lconst X 1 dX8_lace_3 rfl ?_
  refine x_csz X hw [lV (i32 a1), lV 0, lV 1] [] (c_M_in l G ad hI σ (i32 a1) 0 1 hV) (va_cwS 3 X.2.2.2.2 gX8_lace_X8_in rfl rfl rfl hd_M_in ⟨x_fr hR.1 rfl, x_fr hR.2 rfl⟩) rfl hl.1 rfl (Nat.le_of_ble_eq_true rfl) dX8_lace_4 ⟨Nat.zero_le _, Nat.zero_le _⟩ (fun r2 σ1 H locs hr2 hV hw => ?_)
  refine x_if_eq X rfl 22 dX8_lace_7 (by decide) (fun hc => ?_) (fun hc => ?_)
  · replace hV := hV.1 hc
    refine x_aload_n X dX8_lace_22 rfl (lv_at hl 0 rfl) ?_
    refine x_ldc X (-1000000001) n_M_lace_0 (by decide) dX8_lace_23 ?_
    refine x_cvi X hw [iV (-1000000001)] [] (c_M_errs l G ad hI σ1 (-1000000001) hV) (cwV 1 X.2.2.2.2 gX8_lace_X8_errs rfl rfl rfl hd_M_errs ⟨x_fr hR.1 rfl, x_fr hR.2 rfl⟩) lm0 cX8 rfl hl.1 rfl (Nat.le_of_ble_eq_true rfl) dX8_lace_25 ⟨Nat.zero_le _, Nat.zero_le _⟩ (fun r4 σ3 H locs hV hw => ?_)
    exact hret r4 σ3 H locs ls 28 hV hw dX8_lace_28
  · replace hV := hV.2 hc
    refine x_iload_n X dX8_lace_10 rfl (lv_at hl 2 rfl) ?_
    refine x_i2l X dX8_lace_11 ?_
    refine x_lconst X 0 dX8_lace_12 rfl ?_
    refine x_ldc2 X 3 n_M_lace_1 (by decide) dX8_lace_13 ?_
    refine x_csz X hw [lV (i32 a2), lV 0, lV 3] [] (c_M_in l G ad hI σ1 (i32 a2) 0 3 hV) (va_cwS 3 X.2.2.2.2 gX8_lace_X8_in rfl rfl rfl hd_M_in ⟨x_fr hR.1 rfl, x_fr hR.2 rfl⟩) rfl hl.1 rfl (Nat.le_of_ble_eq_true rfl) dX8_lace_16 ⟨Nat.zero_le _, Nat.zero_le _⟩ (fun r6 σ5 H locs hr6 hV hw => ?_)
    refine x_if_ne X rfl 29 dX8_lace_19 (by decide) (fun hc => ?_) (fun hc => ?_)
    · replace hV := hV.1 hc
      refine x_aload_n X dX8_lace_29 rfl (lv_at hl 0 rfl) ?_
      refine x_iload_n X dX8_lace_30 rfl (lv_at hl 1 rfl) ?_
      refine x_cvv X hw [iV a1] [] (c_M_whole l G ad hI σ5 a1 hV) (cwV 1 X.2.2.2.2 gX8_lace_X8_whole rfl rfl rfl hd_M_whole ⟨x_fr hR.1 rfl, x_fr hR.2 rfl⟩) lm0 cX8 rfl hl.1 rfl (Nat.le_of_ble_eq_true rfl) dX8_lace_31 ⟨Nat.zero_le _, Nat.zero_le _⟩ (fun σ7 H locs hV hw => ?_)
      refine x_aload_n X dX8_lace_34 rfl (lv_at hl 0 rfl) ?_
      refine x_cvi X hw [] [] (c_M_layers l G ad hI σ7 hV) (cwV 0 X.2.2.2.2 gX8_lace_X8_layers rfl rfl rfl hd_M_layers ⟨x_fr hR.1 rfl, x_fr hR.2 rfl⟩) lm0 cX8 rfl hl.1 rfl (Nat.le_of_ble_eq_true rfl) dX8_lace_35 ⟨Nat.zero_le _, Nat.zero_le _⟩ (fun r9 σ8 H locs hV hw => ?_)
      refine x_istore_n X [(3, iV r9), (0, .ref (ad 0)), (1, iV a1), (2, iV a2)] dX8_lace_38 rfl hl (by decide) rfl (fun ls hl => ?_)
      refine x_iconst X dX8_lace_39 ?_
      refine x_istore X [(4, iV 0), (3, iV r9), (0, .ref (ad 0)), (1, iV a1), (2, iV a2)] dX8_lace_40 hl (by decide) rfl (fun ls hl => ?_)
      refine x_iconst X dX8_lace_42 ?_
      refine x_istore X [(5, iV 0), (4, iV 0), (3, iV r9), (0, .ref (ad 0)), (1, iV a1), (2, iV a2)] dX8_lace_43 hl (by decide) rfl (fun ls hl => ?_)
      refine WL2.use (Gl := fun x5_10 x4_11 σ12 => ∀ (H : Heap) (locs : List Loc) (ls : Array Slot), Wx vwCl G LM ad s H locs σ12 → lv_has ls 6 [(5, iV x5_10), (4, iV x4_11), (3, iV r9), (0, .ref (ad 0)), (2, iV a2)] → W p l e R s m args below meth c H locs 0 0 QQ (F0 m 45 ls [])) ?_ hV H locs ls hw (lv_sub hl [0, 1, 2, 3, 5] rfl)
      clear hV hw hl H locs ls
      intro bk13 x5_10 x4_11 σ12 hbk13 hV H locs ls hw hl
      refine x_iload X dX8_lace_45 (lv_at hl 0 rfl) ?_
      refine x_aload_n X dX8_lace_47 rfl (lv_at hl 3 rfl) ?_
      refine x_geti X hw lm0 cX8 21 (by decide) rfl n_M_lace_3 n_M_lace_2 dX8_lace_48 ?_
      refine x_icmp_ge X rfl rfl 81 dX8_lace_51 (by decide) (fun hc => ?_) (fun hc => ?_)
      · replace hV := hV.1 hc
        refine x_iload_n X dX8_lace_81 rfl (lv_at hl 4 rfl) ?_
        refine x_if_ne X rfl 92 dX8_lace_82 (by decide) (fun hc => ?_) (fun hc => ?_)
        · replace hV := hV.1 hc
          refine x_iload_n X dX8_lace_92 rfl (lv_at hl 4 rfl) ?_
          refine x_iconst X dX8_lace_93 ?_
          refine x_icmp_ne X rfl k32_1 104 dX8_lace_94 (by decide) (fun hc => ?_) (fun hc => ?_)
          · replace hV := hV.1 hc
            refine x_iload_n X dX8_lace_104 rfl (lv_at hl 4 rfl) ?_
            refine x_iconst X dX8_lace_105 ?_
            refine x_icmp_ne X rfl k32_2 113 dX8_lace_106 (by decide) (fun hc => ?_) (fun hc => ?_)
            · replace hV := hV.1 hc
              refine x_iload X dX8_lace_113 (lv_at hl 1 rfl) ?_
              exact hret x4_11 σ12 H locs ls 115 hV hw dX8_lace_115
            · replace hV := hV.2 hc
              refine x_iload_n X dX8_lace_109 rfl (lv_at hl 2 rfl) ?_
              refine x_goto X 115 dX8_lace_110 (by decide) ?_
              exact hret r9 σ12 H locs ls 115 hV hw dX8_lace_115
          · replace hV := hV.2 hc
            refine x_aload_n X dX8_lace_97 rfl (lv_at hl 3 rfl) ?_
            refine x_geti X hw lm0 cX8 21 (by decide) rfl n_M_lace_3 n_M_lace_2 dX8_lace_98 ?_
            refine x_goto X 115 dX8_lace_101 (by decide) ?_
            exact hret (σ12 0 21) σ12 H locs ls 115 hV hw dX8_lace_115
        · replace hV := hV.2 hc
          refine x_aload_n X dX8_lace_85 rfl (lv_at hl 3 rfl) ?_
          refine x_geti X hw lm0 cX8 15 (by decide) rfl n_M_lace_3 n_M_lace_4 dX8_lace_86 ?_
          refine x_goto X 115 dX8_lace_89 (by decide) ?_
          exact hret (σ12 0 15) σ12 H locs ls 115 hV hw dX8_lace_115
      · replace hV := hV.2 hc
        refine x_iload X dX8_lace_54 (lv_at hl 1 rfl) ?_
        refine x_aload_n X dX8_lace_56 rfl (lv_at hl 3 rfl) ?_
        refine x_getr X hw lm0 cX8 23 (by decide) rfl n_M_lace_3 n_M_lace_5 dX8_lace_57 ?_
        refine x_iload X dX8_lace_60 (lv_at hl 0 rfl) ?_
        obtain ⟨hi, hV⟩ := hV
        refine x_iald X hw lm19 rfl rfl hi dX8_lace_62 ?_
        refine x_iconst X dX8_lace_63 ?_
        refine x_icmp_ne X rfl k32_1 71 dX8_lace_64 (by decide) (fun hc => ?_) (fun hc => ?_)
        · replace hV := hV.1 hc
          refine x_iconst X dX8_lace_71 ?_
          refine x_iadd X dX8_lace_72 ?_
          refine x_bi (fun x4_14 ex4_14 => ?_)
          replace hV := hV x4_14 ex4_14
          clear ex4_14
          refine x_istore X [(4, iV x4_14), (5, iV x5_10), (3, iV r9), (0, .ref (ad 0)), (2, iV a2)] dX8_lace_73 hl (by decide) rfl (fun ls hl => ?_)
          refine x_iinc X (k := 1) (x5_10 + 1) [(5, iV (x5_10 + 1)), (4, iV x4_14), (3, iV r9), (0, .ref (ad 0)), (2, iV a2)] dX8_lace_75 hl rfl rfl (by decide) rfl (fun ls hl => ?_)
          refine x_goto X 45 dX8_lace_78 (by decide) ?_
          exact hbk13 (x5_10 + 1) x4_14 σ12 hV H locs ls hw hl
        · replace hV := hV.2 hc
          refine x_iconst X dX8_lace_67 ?_
          refine x_goto X 72 dX8_lace_68 (by decide) ?_
          refine x_iadd X dX8_lace_72 ?_
          refine x_bi (fun x4_15 ex4_15 => ?_)
          replace hV := hV x4_15 ex4_15
          clear ex4_15
          refine x_istore X [(4, iV x4_15), (5, iV x5_10), (3, iV r9), (0, .ref (ad 0)), (2, iV a2)] dX8_lace_73 hl (by decide) rfl (fun ls hl => ?_)
          refine x_iinc X (k := 1) (x5_10 + 1) [(5, iV (x5_10 + 1)), (4, iV x4_15), (3, iV r9), (0, .ref (ad 0)), (2, iV a2)] dX8_lace_75 hl rfl rfl (by decide) rfl (fun ls hl => ?_)
          refine x_goto X 45 dX8_lace_78 (by decide) ?_
          exact hbk13 (x5_10 + 1) x4_15 σ12 hV H locs ls hw hl
    · replace hV := hV.2 hc
      refine x_aload_n X dX8_lace_22 rfl (lv_at hl 0 rfl) ?_
      refine x_ldc X (-1000000001) n_M_lace_0 (by decide) dX8_lace_23 ?_
      refine x_cvi X hw [iV (-1000000001)] [] (c_M_errs l G ad hI σ5 (-1000000001) hV) (cwV 1 X.2.2.2.2 gX8_lace_X8_errs rfl rfl rfl hd_M_errs ⟨x_fr hR.1 rfl, x_fr hR.2 rfl⟩) lm0 cX8 rfl hl.1 rfl (Nat.le_of_ble_eq_true rfl) dX8_lace_25 ⟨Nat.zero_le _, Nat.zero_le _⟩ (fun r17 σ16 H locs hV hw => ?_)
      exact hret r17 σ16 H locs ls 28 hV hw dX8_lace_28

theorem n_M_layer_0 : Cond.constant RX8 149 (-1000000001) ∈ wsX8_layer := by decide +kernel
set_option maxHeartbeats 4000000 in
set_option maxRecDepth 100000 in
theorem c_M_layer (l : Launch) (G : GT) (ad : Nat → Nat) (hI : Inj LM ad) (σ : St) (a1 : Int) (a2 : Int) (a3 : Int) {Q : Int → St → Prop} (hV : V_M_layer σ a1 a2 a3 Q) : Met l yX8_layer wsX8_layer (rmx 5 116) (Pq vwCl G LM ad σ [.ref (ad 0), iV a1, iV a2, iV a3]) (Qi vwCl G LM ad Q) 0 0 (Ax LM ad) := by
  unfold V_M_layer at hV
  refine x_meti (own := RX8) (by decide) rfl rfl (Nat.le_of_ble_eq_true rfl) hI ?_
  intro p e s m args below meth c R QQ X hR hret ls hl hw
  replace hl : lv_has ls 5 [(0, .ref (ad 0)), (1, iV a1), (2, iV a2), (3, iV a3)] := hl
  obtain ⟨H, hH⟩ : ∃ z, z = s.heap := ⟨_, rfl⟩
  obtain ⟨locs, hlo⟩ : ∃ z : List Loc, z = [] := ⟨_, rfl⟩
  rw [← hH, ← hlo]
  replace hw : Wx vwCl G LM ad s H locs σ := by rw [hH, hlo]; exact hw
  clear hH hlo
  refine x_iload_n X dX8_layer_0 rfl (lv_at hl 1 rfl) ?_
  refine x_i2l X dX8_layer_1 ?_
  refine x_lconst X 0 dX8_layer_2 rfl ?_
  refine x_lconst X 1 dX8_layer_3 rfl ?_
  refine x_csz X hw [lV (i32 a1), lV 0, lV 1] [] (c_M_in l G ad hI σ (i32 a1) 0 1 hV) (va_cwS 3 X.2.2.2.2 gX8_layer_X8_in rfl rfl rfl hd_M_in ⟨x_fr hR.1 rfl, x_fr hR.2 rfl⟩) rfl hl.1 rfl (Nat.le_of_ble_eq_true rfl) dX8_layer_4 ⟨Nat.zero_le _, Nat.zero_le _⟩ (fun r2 σ1 H locs hr2 hV hw => ?_)
  refine x_if_eq X rfl 30 dX8_layer_7 (by decide) (fun hc => ?_) (fun hc => ?_)
  · replace hV := hV.1 hc
    refine x_aload_n X dX8_layer_30 rfl (lv_at hl 0 rfl) ?_
    refine x_ldc X (-1000000001) n_M_layer_0 (by decide) dX8_layer_31 ?_
    refine x_cvi X hw [iV (-1000000001)] [] (c_M_errs l G ad hI σ1 (-1000000001) hV) (cwV 1 X.2.2.2.2 gX8_layer_X8_errs rfl rfl rfl hd_M_errs ⟨x_fr hR.1 rfl, x_fr hR.2 rfl⟩) lm0 cX8 rfl hl.1 rfl (Nat.le_of_ble_eq_true rfl) dX8_layer_33 ⟨Nat.zero_le _, Nat.zero_le _⟩ (fun r4 σ3 H locs hV hw => ?_)
    exact hret r4 σ3 H locs ls 36 hV hw dX8_layer_36
  · replace hV := hV.2 hc
    refine x_iload_n X dX8_layer_10 rfl (lv_at hl 2 rfl) ?_
    refine x_if_lt X rfl 30 dX8_layer_11 (by decide) (fun hc => ?_) (fun hc => ?_)
    · replace hV := hV.1 hc
      refine x_aload_n X dX8_layer_30 rfl (lv_at hl 0 rfl) ?_
      refine x_ldc X (-1000000001) n_M_layer_0 (by decide) dX8_layer_31 ?_
      refine x_cvi X hw [iV (-1000000001)] [] (c_M_errs l G ad hI σ1 (-1000000001) hV) (cwV 1 X.2.2.2.2 gX8_layer_X8_errs rfl rfl rfl hd_M_errs ⟨x_fr hR.1 rfl, x_fr hR.2 rfl⟩) lm0 cX8 rfl hl.1 rfl (Nat.le_of_ble_eq_true rfl) dX8_layer_33 ⟨Nat.zero_le _, Nat.zero_le _⟩ (fun r6 σ5 H locs hV hw => ?_)
      exact hret r6 σ5 H locs ls 36 hV hw dX8_layer_36
    · replace hV := hV.2 hc
      refine x_iload_n X dX8_layer_14 rfl (lv_at hl 3 rfl) ?_
      refine x_i2l X dX8_layer_15 ?_
      refine x_lconst X 0 dX8_layer_16 rfl ?_
      refine x_aload_n X dX8_layer_17 rfl (lv_at hl 0 rfl) ?_
      refine x_cvi X hw [] [lV 0, lV (i32 a3)] (c_M_threads l G ad hI σ1 hV) (cwV 0 X.2.2.2.2 gX8_layer_X8_threads rfl rfl rfl hd_M_threads ⟨x_fr hR.1 rfl, x_fr hR.2 rfl⟩) lm0 cX8 rfl hl.1 rfl (Nat.le_of_ble_eq_true rfl) dX8_layer_18 ⟨Nat.zero_le _, Nat.zero_le _⟩ (fun r8 σ7 H locs hV hw => ?_)
      refine x_iconst X dX8_layer_21 ?_
      refine x_isub X dX8_layer_22 ?_
      refine x_i2l X dX8_layer_23 ?_
      refine x_csz X hw [lV (i32 a3), lV 0, lV (i32 (r8 - 2))] [] (c_M_in l G ad hI σ7 (i32 a3) 0 (i32 (r8 - 2)) hV) (va_cwS 3 X.2.2.2.2 gX8_layer_X8_in rfl rfl rfl hd_M_in ⟨x_fr hR.1 rfl, x_fr hR.2 rfl⟩) rfl hl.1 rfl (Nat.le_of_ble_eq_true rfl) dX8_layer_24 ⟨Nat.zero_le _, Nat.zero_le _⟩ (fun r10 σ9 H locs hr10 hV hw => ?_)
      refine x_if_ne X rfl 37 dX8_layer_27 (by decide) (fun hc => ?_) (fun hc => ?_)
      · replace hV := hV.1 hc
        refine x_aload_n X dX8_layer_37 rfl (lv_at hl 0 rfl) ?_
        refine x_iload_n X dX8_layer_38 rfl (lv_at hl 1 rfl) ?_
        refine x_cvv X hw [iV a1] [] (c_M_whole l G ad hI σ9 a1 hV) (cwV 1 X.2.2.2.2 gX8_layer_X8_whole rfl rfl rfl hd_M_whole ⟨x_fr hR.1 rfl, x_fr hR.2 rfl⟩) lm0 cX8 rfl hl.1 rfl (Nat.le_of_ble_eq_true rfl) dX8_layer_39 ⟨Nat.zero_le _, Nat.zero_le _⟩ (fun σ11 H locs hV hw => ?_)
        refine x_aload_n X dX8_layer_42 rfl (lv_at hl 0 rfl) ?_
        refine x_cvi X hw [] [] (c_M_layers l G ad hI σ11 hV) (cwV 0 X.2.2.2.2 gX8_layer_X8_layers rfl rfl rfl hd_M_layers ⟨x_fr hR.1 rfl, x_fr hR.2 rfl⟩) lm0 cX8 rfl hl.1 rfl (Nat.le_of_ble_eq_true rfl) dX8_layer_43 ⟨Nat.zero_le _, Nat.zero_le _⟩ (fun r13 σ12 H locs hV hw => ?_)
        refine x_istore X [(4, iV r13), (0, .ref (ad 0)), (1, iV a1), (2, iV a2), (3, iV a3)] dX8_layer_46 hl (by decide) rfl (fun ls hl => ?_)
        refine x_aload_n X dX8_layer_48 rfl (lv_at hl 1 rfl) ?_
        refine x_iload_n X dX8_layer_49 rfl (lv_at hl 3 rfl) ?_
        refine x_iload_n X dX8_layer_50 rfl (lv_at hl 4 rfl) ?_
        refine x_cvi X hw [iV a2, iV a3] [] (c_M_signIn l G ad hI σ12 a2 a3 hV) (cwV 2 X.2.2.2.2 gX8_layer_X8_signIn rfl rfl rfl hd_M_signIn ⟨x_fr hR.1 rfl, x_fr hR.2 rfl⟩) lm0 cX8 rfl hl.1 rfl (Nat.le_of_ble_eq_true rfl) dX8_layer_51 ⟨Nat.zero_le _, Nat.zero_le _⟩ (fun r15 σ14 H locs hV hw => ?_)
        exact hret r15 σ14 H locs ls 54 hV hw dX8_layer_54
      · replace hV := hV.2 hc
        refine x_aload_n X dX8_layer_30 rfl (lv_at hl 0 rfl) ?_
        refine x_ldc X (-1000000001) n_M_layer_0 (by decide) dX8_layer_31 ?_
        refine x_cvi X hw [iV (-1000000001)] [] (c_M_errs l G ad hI σ9 (-1000000001) hV) (cwV 1 X.2.2.2.2 gX8_layer_X8_errs rfl rfl rfl hd_M_errs ⟨x_fr hR.1 rfl, x_fr hR.2 rfl⟩) lm0 cX8 rfl hl.1 rfl (Nat.le_of_ble_eq_true rfl) dX8_layer_33 ⟨Nat.zero_le _, Nat.zero_le _⟩ (fun r17 σ16 H locs hV hw => ?_)
        exact hret r17 σ16 H locs ls 36 hV hw dX8_layer_36

set_option maxHeartbeats 4000000 in
set_option maxRecDepth 100000 in
theorem c_M_areRowsAlike (l : Launch) (G : GT) (ad : Nat → Nat) (hI : Inj LM ad) (σ : St) (a1 : Int) (a2 : Int) {Q : Int → St → Prop} (hV : V_M_areRowsAlike σ a1 a2 Q) : Met l yX8_areRowsAlike wsX8_areRowsAlike (rmx 1 22) (Pq vwCl G LM ad σ [.ref (ad 0), iV a1, iV a2]) (Qz vwCl G LM ad Q) 0 0 (Ax LM ad) := by
  unfold V_M_areRowsAlike at hV
  refine x_metz (own := RX8) (by decide) rfl rfl (Nat.le_of_ble_eq_true rfl) hI ?_
  intro p e s m args below meth c R QQ X hR hret ls hl hw
  replace hl : lv_has ls 4 [(0, .ref (ad 0)), (1, iV a1), (2, iV a2)] := hl
  obtain ⟨H, hH⟩ : ∃ z, z = s.heap := ⟨_, rfl⟩
  obtain ⟨locs, hlo⟩ : ∃ z : List Loc, z = [] := ⟨_, rfl⟩
  rw [← hH, ← hlo]
  replace hw : Wx vwCl G LM ad s H locs σ := by rw [hH, hlo]; exact hw
  clear hH hlo
  refine x_iconst X dX8_areRowsAlike_0 ?_
  refine x_istore_n X [(3, iV 0), (0, .ref (ad 0)), (1, iV a1), (2, iV a2)] dX8_areRowsAlike_1 rfl hl (by decide) rfl (fun ls hl => ?_)
  refine WL1.use (Gl := fun x3_1 σ2 => ∀ (H : Heap) (locs : List Loc) (ls : Array Slot), Wx vwCl G LM ad s H locs σ2 → lv_has ls 4 [(3, iV x3_1), (0, .ref (ad 0)), (1, iV a1), (2, iV a2)] → W p l e R s m args below meth c H locs 0 0 QQ (F0 m 2 ls [])) ?_ hV H locs ls hw hl
  clear hV hw hl H locs ls
  intro bk3 x3_1 σ2 hbk3 hV H locs ls hw hl
  refine x_iload_n X dX8_areRowsAlike_2 rfl (lv_at hl 0 rfl) ?_
  refine x_aload_n X dX8_areRowsAlike_3 rfl (lv_at hl 1 rfl) ?_
  refine x_cvi X hw [] [iV x3_1] (c_M_gaps l G ad hI σ2 hV) (cwV 0 X.2.2.2.2 gX8_areRowsAlike_X8_gaps rfl rfl rfl hd_M_gaps ⟨x_fr hR.1 rfl, x_fr hR.2 rfl⟩) lm0 cX8 rfl hl.1 rfl (Nat.le_of_ble_eq_true rfl) dX8_areRowsAlike_4 ⟨Nat.zero_le _, Nat.zero_le _⟩ (fun r5 σ4 H locs hV hw => ?_)
  refine x_icmp_ge X rfl rfl 33 dX8_areRowsAlike_7 (by decide) (fun hc => ?_) (fun hc => ?_)
  · replace hV := hV.1 hc
    refine x_iconst X dX8_areRowsAlike_33 ?_
    exact hret 1 σ4 H locs ls 34 (by decide) hV hw dX8_areRowsAlike_34
  · replace hV := hV.2 hc
    refine x_aload_n X dX8_areRowsAlike_10 rfl (lv_at hl 1 rfl) ?_
    refine x_iload_n X dX8_areRowsAlike_11 rfl (lv_at hl 2 rfl) ?_
    refine x_iload_n X dX8_areRowsAlike_12 rfl (lv_at hl 0 rfl) ?_
    refine x_cvi X hw [iV a1, iV x3_1] [] (c_M_held l G ad hI σ4 a1 x3_1 hV) (cwV 2 X.2.2.2.2 gX8_areRowsAlike_X8_held rfl rfl rfl hd_M_held ⟨x_fr hR.1 rfl, x_fr hR.2 rfl⟩) lm0 cX8 rfl hl.1 rfl (Nat.le_of_ble_eq_true rfl) dX8_areRowsAlike_13 ⟨Nat.zero_le _, Nat.zero_le _⟩ (fun r7 σ6 H locs hV hw => ?_)
    refine x_aload_n X dX8_areRowsAlike_16 rfl (lv_at hl 1 rfl) ?_
    refine x_iload_n X dX8_areRowsAlike_17 rfl (lv_at hl 3 rfl) ?_
    refine x_iload_n X dX8_areRowsAlike_18 rfl (lv_at hl 0 rfl) ?_
    refine x_cvi X hw [iV a2, iV x3_1] [iV r7] (c_M_held l G ad hI σ6 a2 x3_1 hV) (cwV 2 X.2.2.2.2 gX8_areRowsAlike_X8_held rfl rfl rfl hd_M_held ⟨x_fr hR.1 rfl, x_fr hR.2 rfl⟩) lm0 cX8 rfl hl.1 rfl (Nat.le_of_ble_eq_true rfl) dX8_areRowsAlike_19 ⟨Nat.zero_le _, Nat.zero_le _⟩ (fun r9 σ8 H locs hV hw => ?_)
    refine x_icmp_eq X rfl rfl 27 dX8_areRowsAlike_22 (by decide) (fun hc => ?_) (fun hc => ?_)
    · replace hV := hV.1 hc
      refine x_iinc X (k := 0) (x3_1 + 1) [(3, iV (x3_1 + 1)), (0, .ref (ad 0)), (1, iV a1), (2, iV a2)] dX8_areRowsAlike_27 hl rfl rfl (by decide) rfl (fun ls hl => ?_)
      refine x_goto X 2 dX8_areRowsAlike_30 (by decide) ?_
      exact hbk3 (x3_1 + 1) σ8 hV H locs ls hw hl
    · replace hV := hV.2 hc
      refine x_iconst X dX8_areRowsAlike_25 ?_
      exact hret 0 σ8 H locs ls 26 (by decide) hV hw dX8_areRowsAlike_26

theorem n_M_repeat_0 : Cond.fieldLink RX8 120 "LacePillowModel" "many" "I" ∈ wsX8_repeat := by decide +kernel
theorem n_M_repeat_1 : ∀ w ∈ wsX80, w ∈ wsX8_repeat := by decide +kernel
theorem n_M_repeat_2 : Cond.constant RX8 249 (-1000000002) ∈ wsX8_repeat := by decide +kernel
set_option maxHeartbeats 4000000 in
set_option maxRecDepth 100000 in
theorem c_M_repeat (l : Launch) (G : GT) (ad : Nat → Nat) (hI : Inj LM ad) (σ : St) {Q : Int → St → Prop} (hV : V_M_repeat σ Q) : Met l yX8_repeat wsX8_repeat (rmx 2 45) (Pq vwCl G LM ad σ [.ref (ad 0)]) (Qi vwCl G LM ad Q) 0 0 (Ax LM ad) := by
  unfold V_M_repeat at hV
  refine x_meti (own := RX8) (by decide) rfl rfl (Nat.le_of_ble_eq_true rfl) hI ?_
  intro p e s m args below meth c R QQ X hR hret ls hl hw
  replace hl : lv_has ls 4 [(0, .ref (ad 0))] := hl
  obtain ⟨H, hH⟩ : ∃ z, z = s.heap := ⟨_, rfl⟩
  obtain ⟨locs, hlo⟩ : ∃ z : List Loc, z = [] := ⟨_, rfl⟩
  rw [← hH, ← hlo]
  replace hw : Wx vwCl G LM ad s H locs σ := by rw [hH, hlo]; exact hw
  clear hH hlo
  refine x_aload_n X dX8_repeat_0 rfl (lv_at hl 0 rfl) ?_
  refine x_geti X hw lm0 cX8 5 (by decide) rfl n_M_repeat_1 n_M_repeat_0 dX8_repeat_1 ?_
  refine x_if_ne X rfl 14 dX8_repeat_4 (by decide) (fun hc => ?_) (fun hc => ?_)
  · replace hV := hV.1 hc
    refine x_iconst X dX8_repeat_14 ?_
    refine x_istore_n X [(1, iV 1), (0, .ref (ad 0))] dX8_repeat_15 rfl hl (by decide) rfl (fun ls hl => ?_)
    refine WL1.use (Gl := fun x1_1 σ2 => ∀ (H : Heap) (locs : List Loc) (ls : Array Slot), Wx vwCl G LM ad s H locs σ2 → lv_has ls 4 [(1, iV x1_1), (0, .ref (ad 0))] → W p l e R s m args below meth c H locs 0 0 QQ (F0 m 16 ls [])) ?_ hV H locs ls hw hl
    clear hV hw hl H locs ls
    intro bk3 x1_1 σ2 hbk3 hV H locs ls hw hl
    refine x_iload_n X dX8_repeat_16 rfl (lv_at hl 0 rfl) ?_
    refine x_aload_n X dX8_repeat_17 rfl (lv_at hl 1 rfl) ?_
    refine x_cvi X hw [] [iV x1_1] (c_M_deep l G ad hI σ2 hV) (cwV 0 X.2.2.2.2 gX8_repeat_X8_deep rfl rfl rfl hd_M_deep ⟨x_fr hR.1 rfl, x_fr hR.2 rfl⟩) lm0 cX8 rfl hl.1 rfl (Nat.le_of_ble_eq_true rfl) dX8_repeat_18 ⟨Nat.zero_le _, Nat.zero_le _⟩ (fun r5 σ4 H locs hV hw => ?_)
    refine x_icmp_ge X rfl rfl 67 dX8_repeat_21 (by decide) (fun hc => ?_) (fun hc => ?_)
    · replace hV := hV.1 hc
      refine x_aload_n X dX8_repeat_67 rfl (lv_at hl 1 rfl) ?_
      refine x_cvi X hw [] [] (c_M_deep l G ad hI σ4 hV) (cwV 0 X.2.2.2.2 gX8_repeat_X8_deep rfl rfl rfl hd_M_deep ⟨x_fr hR.1 rfl, x_fr hR.2 rfl⟩) lm0 cX8 rfl hl.1 rfl (Nat.le_of_ble_eq_true rfl) dX8_repeat_68 ⟨Nat.zero_le _, Nat.zero_le _⟩ (fun r7 σ6 H locs hV hw => ?_)
      exact hret r7 σ6 H locs ls 71 hV hw dX8_repeat_71
    · replace hV := hV.2 hc
      refine x_iconst X dX8_repeat_24 ?_
      refine x_istore_n X [(2, iV 1), (1, iV x1_1), (0, .ref (ad 0))] dX8_repeat_25 rfl hl (by decide) rfl (fun ls hl => ?_)
      refine x_iload_n X dX8_repeat_26 rfl (lv_at hl 1 rfl) ?_
      refine x_istore_n X [(3, iV x1_1), (2, iV 1), (1, iV x1_1), (0, .ref (ad 0))] dX8_repeat_27 rfl hl (by decide) rfl (fun ls hl => ?_)
      refine WL2.use (Gl := fun x3_8 x2_9 σ10 => ∀ (H : Heap) (locs : List Loc) (ls : Array Slot), Wx vwCl G LM ad s H locs σ10 → lv_has ls 4 [(3, iV x3_8), (2, iV x2_9), (1, iV x1_1), (0, .ref (ad 0))] → W p l e R s m args below meth c H locs 0 0 QQ (F0 m 28 ls [])) ?_ hV H locs ls hw hl
      clear hV hw hl H locs ls
      intro bk11 x3_8 x2_9 σ10 hbk11 hV H locs ls hw hl
      refine x_iload_n X dX8_repeat_28 rfl (lv_at hl 0 rfl) ?_
      refine x_aload_n X dX8_repeat_29 rfl (lv_at hl 3 rfl) ?_
      refine x_cvi X hw [] [iV x3_8] (c_M_deep l G ad hI σ10 hV) (cwV 0 X.2.2.2.2 gX8_repeat_X8_deep rfl rfl rfl hd_M_deep ⟨x_fr hR.1 rfl, x_fr hR.2 rfl⟩) lm0 cX8 rfl hl.1 rfl (Nat.le_of_ble_eq_true rfl) dX8_repeat_30 ⟨Nat.zero_le _, Nat.zero_le _⟩ (fun r13 σ12 H locs hV hw => ?_)
      refine x_icmp_ge X rfl rfl 55 dX8_repeat_33 (by decide) (fun hc => ?_) (fun hc => ?_)
      · replace hV := hV.1 hc
        refine x_iload_n X dX8_repeat_55 rfl (lv_at hl 1 rfl) ?_
        refine x_if_eq X rfl 61 dX8_repeat_56 (by decide) (fun hc => ?_) (fun hc => ?_)
        · replace hV := hV.1 hc
          refine x_iinc X (k := 2) (x1_1 + 1) [(1, iV (x1_1 + 1)), (3, iV x3_8), (2, iV x2_9), (0, .ref (ad 0))] dX8_repeat_61 hl rfl rfl (by decide) rfl (fun ls hl => ?_)
          refine x_goto X 16 dX8_repeat_64 (by decide) ?_
          exact hbk3 (x1_1 + 1) σ12 hV H locs ls hw (lv_sub hl [0, 3] rfl)
        · replace hV := hV.2 hc
          refine x_iload_n X dX8_repeat_59 rfl (lv_at hl 2 rfl) ?_
          exact hret x1_1 σ12 H locs ls 60 hV hw dX8_repeat_60
      · replace hV := hV.2 hc
        refine x_iload_n X dX8_repeat_36 rfl (lv_at hl 1 rfl) ?_
        refine x_if_eq X rfl 55 dX8_repeat_37 (by decide) (fun hc => ?_) (fun hc => ?_)
        · replace hV := hV.1 hc
          refine x_iload_n X dX8_repeat_55 rfl (lv_at hl 1 rfl) ?_
          refine x_if_eq X rfl 61 dX8_repeat_56 (by decide) (fun hc => ?_) (fun hc => ?_)
          · replace hV := hV.1 hc
            refine x_iinc X (k := 2) (x1_1 + 1) [(1, iV (x1_1 + 1)), (3, iV x3_8), (2, iV x2_9), (0, .ref (ad 0))] dX8_repeat_61 hl rfl rfl (by decide) rfl (fun ls hl => ?_)
            refine x_goto X 16 dX8_repeat_64 (by decide) ?_
            exact hbk3 (x1_1 + 1) σ12 hV H locs ls hw (lv_sub hl [0, 3] rfl)
          · replace hV := hV.2 hc
            refine x_iload_n X dX8_repeat_59 rfl (lv_at hl 2 rfl) ?_
            exact hret x1_1 σ12 H locs ls 60 hV hw dX8_repeat_60
        · replace hV := hV.2 hc
          refine x_aload_n X dX8_repeat_40 rfl (lv_at hl 3 rfl) ?_
          refine x_iload_n X dX8_repeat_41 rfl (lv_at hl 0 rfl) ?_
          refine x_iload_n X dX8_repeat_42 rfl (lv_at hl 0 rfl) ?_
          refine x_iload_n X dX8_repeat_43 rfl (lv_at hl 2 rfl) ?_
          refine x_isub X dX8_repeat_44 ?_
          refine x_cvz X hw [iV x3_8, iV (x3_8 - x1_1)] [] (c_M_areRowsAlike l G ad hI σ12 x3_8 (x3_8 - x1_1) hV) (cwV 2 X.2.2.2.2 gX8_repeat_X8_areRowsAlike rfl rfl rfl hd_M_areRowsAlike ⟨x_fr hR.1 rfl, x_fr hR.2 rfl⟩) lm0 cX8 rfl hl.1 rfl (Nat.le_of_ble_eq_true rfl) dX8_repeat_45 ⟨Nat.zero_le _, Nat.zero_le _⟩ (fun r15 σ14 H locs hr15 hV hw => ?_)
          refine x_istore_n X [(2, iV r15), (3, iV x3_8), (1, iV x1_1), (0, .ref (ad 0))] dX8_repeat_48 rfl hl (by decide) rfl (fun ls hl => ?_)
          refine x_iinc X (k := 1) (x3_8 + 1) [(3, iV (x3_8 + 1)), (2, iV r15), (1, iV x1_1), (0, .ref (ad 0))] dX8_repeat_49 hl rfl rfl (by decide) rfl (fun ls hl => ?_)
          refine x_goto X 28 dX8_repeat_52 (by decide) ?_
          exact hbk11 (x3_8 + 1) r15 σ14 hV H locs ls hw hl
  · replace hV := hV.2 hc
    refine x_aload_n X dX8_repeat_7 rfl (lv_at hl 0 rfl) ?_
    refine x_ldc X (-1000000002) n_M_repeat_2 (by decide) dX8_repeat_8 ?_
    refine x_cvi X hw [iV (-1000000002)] [] (c_M_errs l G ad hI σ (-1000000002) hV) (cwV 1 X.2.2.2.2 gX8_repeat_X8_errs rfl rfl rfl hd_M_errs ⟨x_fr hR.1 rfl, x_fr hR.2 rfl⟩) lm0 cX8 rfl hl.1 rfl (Nat.le_of_ble_eq_true rfl) dX8_repeat_10 ⟨Nat.zero_le _, Nat.zero_le _⟩ (fun r17 σ16 H locs hV hw => ?_)
    exact hret r17 σ16 H locs ls 13 hV hw dX8_repeat_13

theorem n_M_fits_0 : Cond.constantLong RX8 322 (-2) ∈ wsX8_fits := by decide +kernel
theorem n_M_fits_1 : Cond.constantLong RX8 139 (-1) ∈ wsX8_fits := by decide +kernel
theorem n_M_fits_2 : Cond.constantLong RX8 163 (5) ∈ wsX8_fits := by decide +kernel
set_option maxHeartbeats 4000000 in
set_option maxRecDepth 100000 in
theorem c_M_fits (l : Launch) (G : GT) (ad : Nat → Nat) (hI : Inj LM ad) (σ : St) (a1 : Int) (a2 : Int) (a3 : Int) {Q : Int → St → Prop} (hV : V_M_fits σ a1 a2 a3 Q) : Met l yX8_fits wsX8_fits (rmx 1 25) (Pq vwCl G LM ad σ [.ref (ad 0), lV a1, iV a2, iV a3]) (Qz vwCl G LM ad Q) 0 0 (Ax LM ad) := by
  unfold V_M_fits at hV
  refine x_metz (own := RX8) (by decide) rfl rfl (Nat.le_of_ble_eq_true rfl) hI ?_
  intro p e s m args below meth c R QQ X hR hret ls hl hw
  replace hl : lv_has ls 5 [(0, .ref (ad 0)), (1, lV a1), (3, iV a2), (4, iV a3)] := hl
  obtain ⟨H, hH⟩ : ∃ z, z = s.heap := ⟨_, rfl⟩
  obtain ⟨locs, hlo⟩ : ∃ z : List Loc, z = [] := ⟨_, rfl⟩
  rw [← hH, ← hlo]
  replace hw : Wx vwCl G LM ad s H locs σ := by rw [hH, hlo]; exact hw
  clear hH hlo
  refine x_lload_n X dX8_fits_0 rfl (lv_at hl 1 rfl) ?_
  refine x_ldc2 X (-2) n_M_fits_0 (by decide) dX8_fits_1 ?_
  refine x_lcmp_eq X rfl k64_m2 34 dX8_fits_4 dX8_fits_5 (by decide) (fun hc => ?_) (fun hc => ?_)
  · replace hV := hV.1 hc
    refine x_iconst X dX8_fits_34 ?_
    refine x_goto X 39 dX8_fits_35 (by decide) ?_
    exact hret 1 σ H locs ls 39 (by decide) hV hw dX8_fits_39
  · replace hV := hV.2 hc
    refine x_lload_n X dX8_fits_8 rfl (lv_at hl 1 rfl) ?_
    refine x_ldc2 X (-1) n_M_fits_1 (by decide) dX8_fits_9 ?_
    refine x_ldc2 X 5 n_M_fits_2 (by decide) dX8_fits_12 ?_
    refine x_csz X hw [lV a1, lV (-1), lV 5] [] (c_M_in l G ad hI σ a1 (-1) 5 hV) (va_cwS 3 X.2.2.2.2 gX8_fits_X8_in rfl rfl rfl hd_M_in ⟨x_fr hR.1 rfl, x_fr hR.2 rfl⟩) rfl hl.1 rfl (Nat.le_of_ble_eq_true rfl) dX8_fits_15 ⟨Nat.zero_le _, Nat.zero_le _⟩ (fun r2 σ1 H locs hr2 hV hw => ?_)
    refine x_if_eq X rfl 38 dX8_fits_18 (by decide) (fun hc => ?_) (fun hc => ?_)
    · replace hV := hV.1 hc
      refine x_iconst X dX8_fits_38 ?_
      exact hret 0 σ1 H locs ls 39 (by decide) hV hw dX8_fits_39
    · replace hV := hV.2 hc
      refine x_aload_n X dX8_fits_21 rfl (lv_at hl 0 rfl) ?_
      refine x_iload_n X dX8_fits_22 rfl (lv_at hl 2 rfl) ?_
      refine x_iload X dX8_fits_23 (lv_at hl 3 rfl) ?_
      refine x_cvi X hw [iV a2, iV a3] [] (c_M_held l G ad hI σ1 a2 a3 hV) (cwV 2 X.2.2.2.2 gX8_fits_X8_held rfl rfl rfl hd_M_held ⟨x_fr hR.1 rfl, x_fr hR.2 rfl⟩) lm0 cX8 rfl hl.1 rfl (Nat.le_of_ble_eq_true rfl) dX8_fits_25 ⟨Nat.zero_le _, Nat.zero_le _⟩ (fun r4 σ3 H locs hV hw => ?_)
      refine x_i2l X dX8_fits_28 ?_
      refine x_lload_n X dX8_fits_29 rfl (lv_at hl 1 rfl) ?_
      refine x_lcmp_ne X (i64_i32 _) rfl 38 dX8_fits_30 dX8_fits_31 (by decide) (fun hc => ?_) (fun hc => ?_)
      · replace hV := hV.1 hc
        refine x_iconst X dX8_fits_38 ?_
        exact hret 0 σ3 H locs ls 39 (by decide) hV hw dX8_fits_39
      · replace hV := hV.2 hc
        refine x_iconst X dX8_fits_34 ?_
        refine x_goto X 39 dX8_fits_35 (by decide) ?_
        exact hret 1 σ3 H locs ls 39 (by decide) hV hw dX8_fits_39

theorem n_M_isFound_0 : Cond.fieldLink RX8 83 "LacePillowModel" "size" "[I" ∈ wsX8_isFound := by decide +kernel
theorem n_M_isFound_1 : ∀ w ∈ wsX80, w ∈ wsX8_isFound := by decide +kernel
theorem n_M_isFound_2 : Cond.fieldLink RX8 86 "LacePillowModel" "items" "[J" ∈ wsX8_isFound := by decide +kernel
set_option maxHeartbeats 4000000 in
set_option maxRecDepth 100000 in
theorem c_M_isFound (l : Launch) (G : GT) (ad : Nat → Nat) (hI : Inj LM ad) (σ : St) (a1 : Int) (a2 : Int) (a3 : Int) (a4 : Int) {Q : Int → St → Prop} (hV : V_M_isFound σ a1 a2 a3 a4 Q) : Met l yX8_isFound wsX8_isFound (rmx 2 49) (Pq vwCl G LM ad σ [.ref (ad 0), iV a1, iV a2, iV a3, iV a4]) (Qz vwCl G LM ad Q) 0 0 (Ax LM ad) := by
  unfold V_M_isFound at hV
  refine x_metz (own := RX8) (by decide) rfl rfl (Nat.le_of_ble_eq_true rfl) hI ?_
  intro p e s m args below meth c R QQ X hR hret ls hl hw
  replace hl : lv_has ls 6 [(0, .ref (ad 0)), (1, iV a1), (2, iV a2), (3, iV a3), (4, iV a4)] := hl
  obtain ⟨H, hH⟩ : ∃ z, z = s.heap := ⟨_, rfl⟩
  obtain ⟨locs, hlo⟩ : ∃ z : List Loc, z = [] := ⟨_, rfl⟩
  rw [← hH, ← hlo]
  replace hw : Wx vwCl G LM ad s H locs σ := by rw [hH, hlo]; exact hw
  clear hH hlo
  refine x_iconst X dX8_isFound_0 ?_
  refine x_istore X [(5, iV 0), (0, .ref (ad 0)), (1, iV a1), (2, iV a2), (3, iV a3), (4, iV a4)] dX8_isFound_1 hl (by decide) rfl (fun ls hl => ?_)
  refine WL1.use (Gl := fun x5_1 σ2 => ∀ (H : Heap) (locs : List Loc) (ls : Array Slot), Wx vwCl G LM ad s H locs σ2 → lv_has ls 6 [(5, iV x5_1), (0, .ref (ad 0)), (1, iV a1), (2, iV a2), (3, iV a3), (4, iV a4)] → W p l e R s m args below meth c H locs 0 0 QQ (F0 m 3 ls [])) ?_ hV H locs ls hw hl
  clear hV hw hl H locs ls
  intro bk3 x5_1 σ2 hbk3 hV H locs ls hw hl
  refine x_iload X dX8_isFound_3 (lv_at hl 0 rfl) ?_
  refine x_aload_n X dX8_isFound_5 rfl (lv_at hl 1 rfl) ?_
  refine x_getr X hw lm0 cX8 30 (by decide) rfl n_M_isFound_1 n_M_isFound_0 dX8_isFound_6 ?_
  refine x_iload_n X dX8_isFound_9 rfl (lv_at hl 2 rfl) ?_
  obtain ⟨hi, hV⟩ := hV
  refine x_iald X hw lm25 rfl rfl hi dX8_isFound_10 ?_
  refine x_icmp_ge X rfl rfl 54 dX8_isFound_11 (by decide) (fun hc => ?_) (fun hc => ?_)
  · replace hV := hV.1 hc
    refine x_iconst X dX8_isFound_54 ?_
    exact hret 1 σ2 H locs ls 55 (by decide) hV hw dX8_isFound_55
  · replace hV := hV.2 hc
    refine x_aload_n X dX8_isFound_14 rfl (lv_at hl 1 rfl) ?_
    refine x_aload_n X dX8_isFound_15 rfl (lv_at hl 1 rfl) ?_
    refine x_getr X hw lm0 cX8 31 (by decide) rfl n_M_isFound_1 n_M_isFound_2 dX8_isFound_16 ?_
    refine x_bipush X dX8_isFound_19 (by decide) ?_
    refine x_iload_n X dX8_isFound_21 rfl (lv_at hl 2 rfl) ?_
    refine x_imul X dX8_isFound_22 ?_
    refine x_iload X dX8_isFound_23 (lv_at hl 0 rfl) ?_
    refine x_iadd X dX8_isFound_25 ?_
    obtain ⟨hi, hV⟩ := hV
    refine x_lald X hw lm26 rfl rfl hi dX8_isFound_26 ?_
    refine x_iload_n X dX8_isFound_27 rfl (lv_at hl 4 rfl) ?_
    refine x_iload X dX8_isFound_28 (lv_at hl 0 rfl) ?_
    refine x_iload_n X dX8_isFound_30 rfl (lv_at hl 3 rfl) ?_
    obtain ⟨hn, hV⟩ := hV
    refine x_idiv X dX8_isFound_31 hn ?_
    refine x_iadd X dX8_isFound_32 ?_
    refine x_iload X dX8_isFound_33 (lv_at hl 5 rfl) ?_
    refine x_iload X dX8_isFound_35 (lv_at hl 0 rfl) ?_
    refine x_iload_n X dX8_isFound_37 rfl (lv_at hl 3 rfl) ?_
    obtain ⟨hn, hV⟩ := hV
    refine x_irem X dX8_isFound_38 hn ?_
    refine x_iadd X dX8_isFound_39 ?_
    refine x_cvz X hw [lV (σ2 26 (i32 ((60 * a1) + x5_1))), iV (a3 + (idv x5_1 a2)), iV (a4 + (irm x5_1 a2))] [] (c_M_fits l G ad hI σ2 (σ2 26 (i32 ((60 * a1) + x5_1))) (a3 + (idv x5_1 a2)) (a4 + (irm x5_1 a2)) hV) (cwV 3 X.2.2.2.2 gX8_isFound_X8_fits rfl rfl rfl hd_M_fits ⟨x_fr hR.1 rfl, x_fr hR.2 rfl⟩) lm0 cX8 rfl hl.1 rfl (Nat.le_of_ble_eq_true rfl) dX8_isFound_40 ⟨Nat.zero_le _, Nat.zero_le _⟩ (fun r5 σ4 H locs hr5 hV hw => ?_)
    refine x_if_ne X rfl 48 dX8_isFound_43 (by decide) (fun hc => ?_) (fun hc => ?_)
    · replace hV := hV.1 hc
      refine x_iinc X (k := 0) (x5_1 + 1) [(5, iV (x5_1 + 1)), (0, .ref (ad 0)), (1, iV a1), (2, iV a2), (3, iV a3), (4, iV a4)] dX8_isFound_48 hl rfl rfl (by decide) rfl (fun ls hl => ?_)
      refine x_goto X 3 dX8_isFound_51 (by decide) ?_
      exact hbk3 (x5_1 + 1) σ4 hV H locs ls hw hl
    · replace hV := hV.2 hc
      refine x_iconst X dX8_isFound_46 ?_
      exact hret 0 σ4 H locs ls 47 (by decide) hV hw dX8_isFound_47

theorem n_M_motif_0 : Cond.constant RX8 149 (-1000000001) ∈ wsX8_motif := by decide +kernel
theorem n_M_motif_1 : Cond.constantLong RX8 219 (7) ∈ wsX8_motif := by decide +kernel
theorem n_M_motif_2 : Cond.fieldLink RX8 80 "LacePillowModel" "sort" "[I" ∈ wsX8_motif := by decide +kernel
theorem n_M_motif_3 : ∀ w ∈ wsX80, w ∈ wsX8_motif := by decide +kernel
theorem n_M_motif_4 : Cond.fieldLink RX8 83 "LacePillowModel" "size" "[I" ∈ wsX8_motif := by decide +kernel
theorem n_M_motif_5 : Cond.constant RX8 165 (-1000000003) ∈ wsX8_motif := by decide +kernel
theorem n_M_motif_6 : Cond.constant RX8 249 (-1000000002) ∈ wsX8_motif := by decide +kernel
theorem n_M_motif_7 : Cond.constant RX8 275 (-1000000007) ∈ wsX8_motif := by decide +kernel
set_option maxHeartbeats 4000000 in
set_option maxRecDepth 100000 in
theorem c_M_motif (l : Launch) (G : GT) (ad : Nat → Nat) (hI : Inj LM ad) (σ : St) (a1 : Int) (a2 : Int) (a3 : Int) {Q : Int → St → Prop} (hV : V_M_motif σ a1 a2 a3 Q) : Met l yX8_motif wsX8_motif (rmx 3 74) (Pq vwCl G LM ad σ [.ref (ad 0), iV a1, iV a2, iV a3]) (Qi vwCl G LM ad Q) 0 0 (Ax LM ad) := by
  unfold V_M_motif at hV
  refine x_meti (own := RX8) (by decide) rfl rfl (Nat.le_of_ble_eq_true rfl) hI ?_
  intro p e s m args below meth c R QQ X hR hret ls hl hw
  replace hl : lv_has ls 9 [(0, .ref (ad 0)), (1, iV a1), (2, iV a2), (3, iV a3)] := hl
  obtain ⟨H, hH⟩ : ∃ z, z = s.heap := ⟨_, rfl⟩
  obtain ⟨locs, hlo⟩ : ∃ z : List Loc, z = [] := ⟨_, rfl⟩
  rw [← hH, ← hlo]
  replace hw : Wx vwCl G LM ad s H locs σ := by rw [hH, hlo]; exact hw
  clear hH hlo
  refine x_iload_n X dX8_motif_0 rfl (lv_at hl 1 rfl) ?_
  refine x_csz X hw [iV a1] [] (c_M_isSheet l G ad hI σ a1 hV) (va_cwS 1 X.2.2.2.2 gX8_motif_X8_isSheet rfl rfl rfl hd_M_isSheet ⟨x_fr hR.1 rfl, x_fr hR.2 rfl⟩) rfl hl.1 rfl (Nat.le_of_ble_eq_true rfl) dX8_motif_1 ⟨Nat.zero_le _, Nat.zero_le _⟩ (fun r2 σ1 H locs hr2 hV hw => ?_)
  refine x_if_eq X rfl 29 dX8_motif_4 (by decide) (fun hc => ?_) (fun hc => ?_)
  · replace hV := hV.1 hc
    refine x_aload_n X dX8_motif_29 rfl (lv_at hl 0 rfl) ?_
    refine x_ldc X (-1000000001) n_M_motif_0 (by decide) dX8_motif_30 ?_
    refine x_cvi X hw [iV (-1000000001)] [] (c_M_errs l G ad hI σ1 (-1000000001) hV) (cwV 1 X.2.2.2.2 gX8_motif_X8_errs rfl rfl rfl hd_M_errs ⟨x_fr hR.1 rfl, x_fr hR.2 rfl⟩) lm0 cX8 rfl hl.1 rfl (Nat.le_of_ble_eq_true rfl) dX8_motif_32 ⟨Nat.zero_le _, Nat.zero_le _⟩ (fun r4 σ3 H locs hV hw => ?_)
    exact hret r4 σ3 H locs ls 35 hV hw dX8_motif_35
  · replace hV := hV.2 hc
    refine x_iload_n X dX8_motif_7 rfl (lv_at hl 2 rfl) ?_
    refine x_i2l X dX8_motif_8 ?_
    refine x_lconst X 1 dX8_motif_9 rfl ?_
    refine x_ldc2 X 7 n_M_motif_1 (by decide) dX8_motif_10 ?_
    refine x_csz X hw [lV (i32 a2), lV 1, lV 7] [] (c_M_in l G ad hI σ1 (i32 a2) 1 7 hV) (va_cwS 3 X.2.2.2.2 gX8_motif_X8_in rfl rfl rfl hd_M_in ⟨x_fr hR.1 rfl, x_fr hR.2 rfl⟩) rfl hl.1 rfl (Nat.le_of_ble_eq_true rfl) dX8_motif_13 ⟨Nat.zero_le _, Nat.zero_le _⟩ (fun r6 σ5 H locs hr6 hV hw => ?_)
    refine x_if_eq X rfl 29 dX8_motif_16 (by decide) (fun hc => ?_) (fun hc => ?_)
    · replace hV := hV.1 hc
      refine x_aload_n X dX8_motif_29 rfl (lv_at hl 0 rfl) ?_
      refine x_ldc X (-1000000001) n_M_motif_0 (by decide) dX8_motif_30 ?_
      refine x_cvi X hw [iV (-1000000001)] [] (c_M_errs l G ad hI σ5 (-1000000001) hV) (cwV 1 X.2.2.2.2 gX8_motif_X8_errs rfl rfl rfl hd_M_errs ⟨x_fr hR.1 rfl, x_fr hR.2 rfl⟩) lm0 cX8 rfl hl.1 rfl (Nat.le_of_ble_eq_true rfl) dX8_motif_32 ⟨Nat.zero_le _, Nat.zero_le _⟩ (fun r8 σ7 H locs hV hw => ?_)
      exact hret r8 σ7 H locs ls 35 hV hw dX8_motif_35
    · replace hV := hV.2 hc
      refine x_iload_n X dX8_motif_19 rfl (lv_at hl 3 rfl) ?_
      refine x_i2l X dX8_motif_20 ?_
      refine x_lconst X 0 dX8_motif_21 rfl ?_
      refine x_lconst X 1 dX8_motif_22 rfl ?_
      refine x_csz X hw [lV (i32 a3), lV 0, lV 1] [] (c_M_in l G ad hI σ5 (i32 a3) 0 1 hV) (va_cwS 3 X.2.2.2.2 gX8_motif_X8_in rfl rfl rfl hd_M_in ⟨x_fr hR.1 rfl, x_fr hR.2 rfl⟩) rfl hl.1 rfl (Nat.le_of_ble_eq_true rfl) dX8_motif_23 ⟨Nat.zero_le _, Nat.zero_le _⟩ (fun r10 σ9 H locs hr10 hV hw => ?_)
      refine x_if_ne X rfl 36 dX8_motif_26 (by decide) (fun hc => ?_) (fun hc => ?_)
      · replace hV := hV.1 hc
        refine x_aload_n X dX8_motif_36 rfl (lv_at hl 0 rfl) ?_
        refine x_getr X hw lm0 cX8 29 (by decide) rfl n_M_motif_3 n_M_motif_2 dX8_motif_37 ?_
        refine x_iload_n X dX8_motif_40 rfl (lv_at hl 1 rfl) ?_
        obtain ⟨hi, hV⟩ := hV
        refine x_iald X hw lm24 rfl rfl hi dX8_motif_41 ?_
        refine x_if_ge X rfl 53 dX8_motif_42 (by decide) (fun hc => ?_) (fun hc => ?_)
        · replace hV := hV.1 hc
          refine x_aload_n X dX8_motif_53 rfl (lv_at hl 0 rfl) ?_
          refine x_getr X hw lm0 cX8 30 (by decide) rfl n_M_motif_3 n_M_motif_4 dX8_motif_54 ?_
          refine x_iload_n X dX8_motif_57 rfl (lv_at hl 1 rfl) ?_
          obtain ⟨hi, hV⟩ := hV
          refine x_iald X hw lm25 rfl rfl hi dX8_motif_58 ?_
          refine x_if_eq X rfl 73 dX8_motif_59 (by decide) (fun hc => ?_) (fun hc => ?_)
          · replace hV := hV.1 hc
            refine x_aload_n X dX8_motif_73 rfl (lv_at hl 0 rfl) ?_
            refine x_ldc X (-1000000003) n_M_motif_5 (by decide) dX8_motif_74 ?_
            refine x_cvi X hw [iV (-1000000003)] [] (c_M_errs l G ad hI σ9 (-1000000003) hV) (cwV 1 X.2.2.2.2 gX8_motif_X8_errs rfl rfl rfl hd_M_errs ⟨x_fr hR.1 rfl, x_fr hR.2 rfl⟩) lm0 cX8 rfl hl.1 rfl (Nat.le_of_ble_eq_true rfl) dX8_motif_76 ⟨Nat.zero_le _, Nat.zero_le _⟩ (fun r12 σ11 H locs hV hw => ?_)
            exact hret r12 σ11 H locs ls 79 hV hw dX8_motif_79
          · replace hV := hV.2 hc
            refine x_aload_n X dX8_motif_62 rfl (lv_at hl 0 rfl) ?_
            refine x_getr X hw lm0 cX8 30 (by decide) rfl n_M_motif_3 n_M_motif_4 dX8_motif_63 ?_
            refine x_iload_n X dX8_motif_66 rfl (lv_at hl 1 rfl) ?_
            obtain ⟨hi, hV⟩ := hV
            refine x_iald X hw lm25 rfl rfl hi dX8_motif_67 ?_
            refine x_iload_n X dX8_motif_68 rfl (lv_at hl 2 rfl) ?_
            obtain ⟨hn, hV⟩ := hV
            refine x_irem X dX8_motif_69 hn ?_
            refine x_if_eq X rfl 80 dX8_motif_70 (by decide) (fun hc => ?_) (fun hc => ?_)
            · replace hV := hV.1 hc
              refine x_aload_n X dX8_motif_80 rfl (lv_at hl 0 rfl) ?_
              refine x_getr X hw lm0 cX8 30 (by decide) rfl n_M_motif_3 n_M_motif_4 dX8_motif_81 ?_
              refine x_iload_n X dX8_motif_84 rfl (lv_at hl 1 rfl) ?_
              obtain ⟨hi, hV⟩ := hV
              refine x_iald X hw lm25 rfl rfl hi dX8_motif_85 ?_
              refine x_iload_n X dX8_motif_86 rfl (lv_at hl 2 rfl) ?_
              obtain ⟨hn, hV⟩ := hV
              refine x_idiv X dX8_motif_87 hn ?_
              refine x_bi (fun x4_13 ex4_13 => ?_)
              replace hV := hV x4_13 ex4_13
              clear ex4_13
              refine x_istore X [(4, iV x4_13), (0, .ref (ad 0)), (1, iV a1), (2, iV a2), (3, iV a3)] dX8_motif_88 hl (by decide) rfl (fun ls hl => ?_)
              refine x_iconst X dX8_motif_90 ?_
              refine x_istore X [(5, iV 0), (4, iV x4_13), (0, .ref (ad 0)), (1, iV a1), (2, iV a2), (3, iV a3)] dX8_motif_91 hl (by decide) rfl (fun ls hl => ?_)
              refine x_iconst X dX8_motif_93 ?_
              refine x_istore X [(6, iV (-1)), (5, iV 0), (4, iV x4_13), (0, .ref (ad 0)), (1, iV a1), (2, iV a2), (3, iV a3)] dX8_motif_94 hl (by decide) rfl (fun ls hl => ?_)
              refine x_iconst X dX8_motif_96 ?_
              refine x_istore X [(7, iV 0), (6, iV (-1)), (5, iV 0), (4, iV x4_13), (0, .ref (ad 0)), (1, iV a1), (2, iV a2), (3, iV a3)] dX8_motif_97 hl (by decide) rfl (fun ls hl => ?_)
              refine WL3.use (Gl := fun x7_14 x6_15 x5_16 σ17 => ∀ (H : Heap) (locs : List Loc) (ls : Array Slot), Wx vwCl G LM ad s H locs σ17 → lv_has ls 9 [(7, iV x7_14), (6, iV x6_15), (5, iV x5_16), (4, iV x4_13), (0, .ref (ad 0)), (1, iV a1), (2, iV a2), (3, iV a3)] → W p l e R s m args below meth c H locs 0 0 QQ (F0 m 99 ls [])) ?_ hV H locs ls hw hl
              clear hV hw hl H locs ls
              intro bk18 x7_14 x6_15 x5_16 σ17 hbk18 hV H locs ls hw hl
              refine x_iload X dX8_motif_99 (lv_at hl 0 rfl) ?_
              refine x_iload X dX8_motif_101 (lv_at hl 3 rfl) ?_
              refine x_iadd X dX8_motif_103 ?_
              refine x_bipush X dX8_motif_104 (by decide) ?_
              refine x_icmp_gt X rfl k32_12 174 dX8_motif_106 (by decide) (fun hc => ?_) (fun hc => ?_)
              · replace hV := hV.1 hc
                refine x_iload_n X dX8_motif_174 rfl (lv_at hl 7 rfl) ?_
                refine x_if_ne X rfl 183 dX8_motif_175 (by decide) (fun hc => ?_) (fun hc => ?_)
                · replace hV := hV.1 hc
                  refine x_iload X dX8_motif_183 (lv_at hl 1 rfl) ?_
                  refine x_if_ge X rfl 197 dX8_motif_185 (by decide) (fun hc => ?_) (fun hc => ?_)
                  · replace hV := hV.1 hc
                    refine x_iload X dX8_motif_197 (lv_at hl 1 rfl) ?_
                    exact hret x6_15 σ17 H locs ls 199 hV hw dX8_motif_199
                  · replace hV := hV.2 hc
                    refine x_aload_n X dX8_motif_188 rfl (lv_at hl 4 rfl) ?_
                    refine x_ldc X (-1000000002) n_M_motif_6 (by decide) dX8_motif_189 ?_
                    refine x_cvi X hw [iV (-1000000002)] [] (c_M_errs l G ad hI σ17 (-1000000002) hV) (cwV 1 X.2.2.2.2 gX8_motif_X8_errs rfl rfl rfl hd_M_errs ⟨x_fr hR.1 rfl, x_fr hR.2 rfl⟩) lm0 cX8 rfl hl.1 rfl (Nat.le_of_ble_eq_true rfl) dX8_motif_191 ⟨Nat.zero_le _, Nat.zero_le _⟩ (fun r20 σ19 H locs hV hw => ?_)
                    refine x_goto X 199 dX8_motif_194 (by decide) ?_
                    exact hret r20 σ19 H locs ls 199 hV hw dX8_motif_199
                · replace hV := hV.2 hc
                  refine x_iload X dX8_motif_178 (lv_at hl 2 rfl) ?_
                  refine x_goto X 199 dX8_motif_180 (by decide) ?_
                  exact hret x5_16 σ17 H locs ls 199 hV hw dX8_motif_199
              · replace hV := hV.2 hc
                refine x_iconst X dX8_motif_109 ?_
                refine x_istore X [(8, iV 0), (7, iV x7_14), (6, iV x6_15), (5, iV x5_16), (4, iV x4_13), (0, .ref (ad 0)), (1, iV a1), (2, iV a2), (3, iV a3)] dX8_motif_110 hl (by decide) rfl (fun ls hl => ?_)
                refine WL3.use (Gl := fun x8_21 x6_22 x5_23 σ24 => ∀ (H : Heap) (locs : List Loc) (ls : Array Slot), Wx vwCl G LM ad s H locs σ24 → lv_has ls 9 [(8, iV x8_21), (7, iV x7_14), (6, iV x6_22), (5, iV x5_23), (4, iV x4_13), (0, .ref (ad 0)), (1, iV a1), (2, iV a2), (3, iV a3)] → W p l e R s m args below meth c H locs 0 0 QQ (F0 m 112 ls [])) ?_ hV H locs ls hw hl
                clear hV hw hl H locs ls
                intro bk25 x8_21 x6_22 x5_23 σ24 hbk25 hV H locs ls hw hl
                refine x_iload X dX8_motif_112 (lv_at hl 0 rfl) ?_
                refine x_iload_n X dX8_motif_114 rfl (lv_at hl 7 rfl) ?_
                refine x_iadd X dX8_motif_115 ?_
                refine x_aload_n X dX8_motif_116 rfl (lv_at hl 5 rfl) ?_
                refine x_cvi X hw [] [iV (x8_21 + a2)] (c_M_gaps l G ad hI σ24 hV) (cwV 0 X.2.2.2.2 gX8_motif_X8_gaps rfl rfl rfl hd_M_gaps ⟨x_fr hR.1 rfl, x_fr hR.2 rfl⟩) lm0 cX8 rfl hl.1 rfl (Nat.le_of_ble_eq_true rfl) dX8_motif_117 ⟨Nat.zero_le _, Nat.zero_le _⟩ (fun r27 σ26 H locs hV hw => ?_)
                refine x_icmp_gt X rfl rfl 168 dX8_motif_120 (by decide) (fun hc => ?_) (fun hc => ?_)
                · replace hV := hV.1 hc
                  refine x_iinc X (k := 1) (x7_14 + 1) [(7, iV (x7_14 + 1)), (8, iV x8_21), (6, iV x6_22), (5, iV x5_23), (4, iV x4_13), (0, .ref (ad 0)), (1, iV a1), (2, iV a2), (3, iV a3)] dX8_motif_168 hl rfl rfl (by decide) rfl (fun ls hl => ?_)
                  refine x_goto X 99 dX8_motif_171 (by decide) ?_
                  exact hbk18 (x7_14 + 1) x6_22 x5_23 σ26 hV H locs ls hw (lv_sub hl [0, 2, 3, 4, 5, 6, 7, 8] rfl)
                · replace hV := hV.2 hc
                  refine x_aload_n X dX8_motif_123 rfl (lv_at hl 5 rfl) ?_
                  refine x_iload_n X dX8_motif_124 rfl (lv_at hl 6 rfl) ?_
                  refine x_iload_n X dX8_motif_125 rfl (lv_at hl 7 rfl) ?_
                  refine x_iload X dX8_motif_126 (lv_at hl 1 rfl) ?_
                  refine x_iload X dX8_motif_128 (lv_at hl 0 rfl) ?_
                  refine x_cvz X hw [iV a1, iV a2, iV x7_14, iV x8_21] [] (c_M_isFound l G ad hI σ26 a1 a2 x7_14 x8_21 hV) (cwV 4 X.2.2.2.2 gX8_motif_X8_isFound rfl rfl rfl hd_M_isFound ⟨x_fr hR.1 rfl, x_fr hR.2 rfl⟩) lm0 cX8 rfl hl.1 rfl (Nat.le_of_ble_eq_true rfl) dX8_motif_130 ⟨Nat.zero_le _, Nat.zero_le _⟩ (fun r29 σ28 H locs hr29 hV hw => ?_)
                  refine x_if_ne X rfl 139 dX8_motif_133 (by decide) (fun hc => ?_) (fun hc => ?_)
                  · replace hV := hV.1 hc
                    refine x_iinc X (k := 3) (x5_23 + 1) [(5, iV (x5_23 + 1)), (8, iV x8_21), (7, iV x7_14), (6, iV x6_22), (4, iV x4_13), (0, .ref (ad 0)), (1, iV a1), (2, iV a2), (3, iV a3)] dX8_motif_139 hl rfl rfl (by decide) rfl (fun ls hl => ?_)
                    refine x_iload X dX8_motif_142 (lv_at hl 3 rfl) ?_
                    refine x_if_ge X rfl 158 dX8_motif_144 (by decide) (fun hc => ?_) (fun hc => ?_)
                    · replace hV := hV.1 hc
                      refine x_iload X dX8_motif_158 (lv_at hl 3 rfl) ?_
                      refine x_istore X [(6, iV x6_22), (5, iV (x5_23 + 1)), (8, iV x8_21), (7, iV x7_14), (4, iV x4_13), (0, .ref (ad 0)), (1, iV a1), (2, iV a2), (3, iV a3)] dX8_motif_160 hl (by decide) rfl (fun ls hl => ?_)
                      refine x_iinc X (k := 2) (x8_21 + 1) [(8, iV (x8_21 + 1)), (6, iV x6_22), (5, iV (x5_23 + 1)), (7, iV x7_14), (4, iV x4_13), (0, .ref (ad 0)), (1, iV a1), (2, iV a2), (3, iV a3)] dX8_motif_162 hl rfl rfl (by decide) rfl (fun ls hl => ?_)
                      refine x_goto X 112 dX8_motif_165 (by decide) ?_
                      exact hbk25 (x8_21 + 1) x6_22 (x5_23 + 1) σ28 hV H locs ls hw (lv_sub hl [0, 3, 1, 2, 4, 5, 6, 7, 8] rfl)
                    · replace hV := hV.2 hc
                      refine x_bipush X dX8_motif_147 (by decide) ?_
                      refine x_iload X dX8_motif_149 (lv_at hl 2 rfl) ?_
                      refine x_imul X dX8_motif_151 ?_
                      refine x_iload X dX8_motif_152 (lv_at hl 1 rfl) ?_
                      refine x_iadd X dX8_motif_154 ?_
                      refine x_goto X 160 dX8_motif_155 (by decide) ?_
                      refine x_bi (fun x6_30 ex6_30 => ?_)
                      replace hV := hV x6_30 ex6_30
                      clear ex6_30
                      refine x_istore X [(6, iV x6_30), (5, iV (x5_23 + 1)), (8, iV x8_21), (7, iV x7_14), (4, iV x4_13), (0, .ref (ad 0)), (1, iV a1), (2, iV a2), (3, iV a3)] dX8_motif_160 hl (by decide) rfl (fun ls hl => ?_)
                      refine x_iinc X (k := 2) (x8_21 + 1) [(8, iV (x8_21 + 1)), (6, iV x6_30), (5, iV (x5_23 + 1)), (7, iV x7_14), (4, iV x4_13), (0, .ref (ad 0)), (1, iV a1), (2, iV a2), (3, iV a3)] dX8_motif_162 hl rfl rfl (by decide) rfl (fun ls hl => ?_)
                      refine x_goto X 112 dX8_motif_165 (by decide) ?_
                      exact hbk25 (x8_21 + 1) x6_30 (x5_23 + 1) σ28 hV H locs ls hw (lv_sub hl [0, 3, 1, 2, 4, 5, 6, 7, 8] rfl)
                  · replace hV := hV.2 hc
                    refine x_goto X 162 dX8_motif_136 (by decide) ?_
                    refine x_iinc X (k := 0) (x8_21 + 1) [(8, iV (x8_21 + 1)), (7, iV x7_14), (6, iV x6_22), (5, iV x5_23), (4, iV x4_13), (0, .ref (ad 0)), (1, iV a1), (2, iV a2), (3, iV a3)] dX8_motif_162 hl rfl rfl (by decide) rfl (fun ls hl => ?_)
                    refine x_goto X 112 dX8_motif_165 (by decide) ?_
                    exact hbk25 (x8_21 + 1) x6_22 x5_23 σ28 hV H locs ls hw hl
            · replace hV := hV.2 hc
              refine x_aload_n X dX8_motif_73 rfl (lv_at hl 0 rfl) ?_
              refine x_ldc X (-1000000003) n_M_motif_5 (by decide) dX8_motif_74 ?_
              refine x_cvi X hw [iV (-1000000003)] [] (c_M_errs l G ad hI σ9 (-1000000003) hV) (cwV 1 X.2.2.2.2 gX8_motif_X8_errs rfl rfl rfl hd_M_errs ⟨x_fr hR.1 rfl, x_fr hR.2 rfl⟩) lm0 cX8 rfl hl.1 rfl (Nat.le_of_ble_eq_true rfl) dX8_motif_76 ⟨Nat.zero_le _, Nat.zero_le _⟩ (fun r32 σ31 H locs hV hw => ?_)
              exact hret r32 σ31 H locs ls 79 hV hw dX8_motif_79
        · replace hV := hV.2 hc
          refine x_aload_n X dX8_motif_45 rfl (lv_at hl 0 rfl) ?_
          refine x_ldcw X (-1000000007) n_M_motif_7 (by decide) dX8_motif_46 ?_
          refine x_cvi X hw [iV (-1000000007)] [] (c_M_errs l G ad hI σ9 (-1000000007) hV) (cwV 1 X.2.2.2.2 gX8_motif_X8_errs rfl rfl rfl hd_M_errs ⟨x_fr hR.1 rfl, x_fr hR.2 rfl⟩) lm0 cX8 rfl hl.1 rfl (Nat.le_of_ble_eq_true rfl) dX8_motif_49 ⟨Nat.zero_le _, Nat.zero_le _⟩ (fun r34 σ33 H locs hV hw => ?_)
          exact hret r34 σ33 H locs ls 52 hV hw dX8_motif_52
      · replace hV := hV.2 hc
        refine x_aload_n X dX8_motif_29 rfl (lv_at hl 0 rfl) ?_
        refine x_ldc X (-1000000001) n_M_motif_0 (by decide) dX8_motif_30 ?_
        refine x_cvi X hw [iV (-1000000001)] [] (c_M_errs l G ad hI σ9 (-1000000001) hV) (cwV 1 X.2.2.2.2 gX8_motif_X8_errs rfl rfl rfl hd_M_errs ⟨x_fr hR.1 rfl, x_fr hR.2 rfl⟩) lm0 cX8 rfl hl.1 rfl (Nat.le_of_ble_eq_true rfl) dX8_motif_32 ⟨Nat.zero_le _, Nat.zero_le _⟩ (fun r36 σ35 H locs hV hw => ?_)
        exact hret r36 σ35 H locs ls 35 hV hw dX8_motif_35

theorem n_M_sheet_0 : Cond.constant RX8 149 (-1000000001) ∈ wsX8_sheet := by decide +kernel
theorem n_M_sheet_1 : Cond.constantLong RX8 139 (-1) ∈ wsX8_sheet := by decide +kernel
theorem n_M_sheet_2 : Cond.constantLong RX8 314 (3) ∈ wsX8_sheet := by decide +kernel
theorem n_M_sheet_3 : Cond.fieldLink RX8 80 "LacePillowModel" "sort" "[I" ∈ wsX8_sheet := by decide +kernel
theorem n_M_sheet_4 : ∀ w ∈ wsX80, w ∈ wsX8_sheet := by decide +kernel
theorem n_M_sheet_5 : Cond.fieldLink RX8 83 "LacePillowModel" "size" "[I" ∈ wsX8_sheet := by decide +kernel
theorem n_M_sheet_6 : Cond.fieldLink RX8 86 "LacePillowModel" "items" "[J" ∈ wsX8_sheet := by decide +kernel
theorem n_M_sheet_7 : Cond.constant RX8 165 (-1000000003) ∈ wsX8_sheet := by decide +kernel
set_option maxHeartbeats 4000000 in
set_option maxRecDepth 100000 in
theorem c_M_sheet (l : Launch) (G : GT) (ad : Nat → Nat) (hI : Inj LM ad) (σ : St) (a1 : Int) (a2 : Int) (a3 : Int) {Q : Int → St → Prop} (hV : V_M_sheet σ a1 a2 a3 Q) : Met l yX8_sheet wsX8_sheet (rmx 2 45) (Pq vwCl G LM ad σ [.ref (ad 0), iV a1, iV a2, iV a3]) (Qi vwCl G LM ad Q) 0 0 (Ax LM ad) := by
  unfold V_M_sheet at hV
  refine x_meti (own := RX8) (by decide) rfl rfl (Nat.le_of_ble_eq_true rfl) hI ?_
  intro p e s m args below meth c R QQ X hR hret ls hl hw
  replace hl : lv_has ls 5 [(0, .ref (ad 0)), (1, iV a1), (2, iV a2), (3, iV a3)] := hl
  obtain ⟨H, hH⟩ : ∃ z, z = s.heap := ⟨_, rfl⟩
  obtain ⟨locs, hlo⟩ : ∃ z : List Loc, z = [] := ⟨_, rfl⟩
  rw [← hH, ← hlo]
  replace hw : Wx vwCl G LM ad s H locs σ := by rw [hH, hlo]; exact hw
  clear hH hlo
  refine x_iload_n X dX8_sheet_0 rfl (lv_at hl 1 rfl) ?_
  refine x_csz X hw [iV a1] [] (c_M_isSheet l G ad hI σ a1 hV) (va_cwS 1 X.2.2.2.2 gX8_sheet_X8_isSheet rfl rfl rfl hd_M_isSheet ⟨x_fr hR.1 rfl, x_fr hR.2 rfl⟩) rfl hl.1 rfl (Nat.le_of_ble_eq_true rfl) dX8_sheet_1 ⟨Nat.zero_le _, Nat.zero_le _⟩ (fun r2 σ1 H locs hr2 hV hw => ?_)
  refine x_if_eq X rfl 21 dX8_sheet_4 (by decide) (fun hc => ?_) (fun hc => ?_)
  · replace hV := hV.1 hc
    refine x_aload_n X dX8_sheet_21 rfl (lv_at hl 0 rfl) ?_
    refine x_ldc X (-1000000001) n_M_sheet_0 (by decide) dX8_sheet_22 ?_
    refine x_cvi X hw [iV (-1000000001)] [] (c_M_errs l G ad hI σ1 (-1000000001) hV) (cwV 1 X.2.2.2.2 gX8_sheet_X8_errs rfl rfl rfl hd_M_errs ⟨x_fr hR.1 rfl, x_fr hR.2 rfl⟩) lm0 cX8 rfl hl.1 rfl (Nat.le_of_ble_eq_true rfl) dX8_sheet_24 ⟨Nat.zero_le _, Nat.zero_le _⟩ (fun r4 σ3 H locs hV hw => ?_)
    exact hret r4 σ3 H locs ls 27 hV hw dX8_sheet_27
  · replace hV := hV.2 hc
    refine x_iload_n X dX8_sheet_7 rfl (lv_at hl 2 rfl) ?_
    refine x_i2l X dX8_sheet_8 ?_
    refine x_ldc2 X (-1) n_M_sheet_1 (by decide) dX8_sheet_9 ?_
    refine x_ldc2 X 3 n_M_sheet_2 (by decide) dX8_sheet_12 ?_
    refine x_csz X hw [lV (i32 a2), lV (-1), lV 3] [] (c_M_in l G ad hI σ1 (i32 a2) (-1) 3 hV) (va_cwS 3 X.2.2.2.2 gX8_sheet_X8_in rfl rfl rfl hd_M_in ⟨x_fr hR.1 rfl, x_fr hR.2 rfl⟩) rfl hl.1 rfl (Nat.le_of_ble_eq_true rfl) dX8_sheet_15 ⟨Nat.zero_le _, Nat.zero_le _⟩ (fun r6 σ5 H locs hr6 hV hw => ?_)
    refine x_if_ne X rfl 28 dX8_sheet_18 (by decide) (fun hc => ?_) (fun hc => ?_)
    · replace hV := hV.1 hc
      refine x_iload_n X dX8_sheet_28 rfl (lv_at hl 2 rfl) ?_
      have hJ43 : ∀ (σ7 : St) (H : Heap) (locs : List Loc) (ls : Array Slot), J_M_sheet_43 a1 a2 a3 Q σ7 → Wx vwCl G LM ad s H locs σ7 → lv_has ls 5 [(0, .ref (ad 0)), (1, iV a1), (2, iV a2), (3, iV a3)] → W p l e R s m args below meth c H locs 0 0 QQ (F0 m 43 ls []) := by
        intro σ7 H locs ls hV hw hl
        unfold J_M_sheet_43 at hV
        refine x_iload_n X dX8_sheet_43 rfl (lv_at hl 2 rfl) ?_
        have hJ60 : ∀ (σ8 : St) (H : Heap) (locs : List Loc) (ls : Array Slot), J_M_sheet_60 a1 a2 a3 Q σ8 → Wx vwCl G LM ad s H locs σ8 → lv_has ls 5 [(0, .ref (ad 0)), (1, iV a1), (2, iV a2), (3, iV a3)] → W p l e R s m args below meth c H locs 0 0 QQ (F0 m 60 ls []) := by
          intro σ8 H locs ls hV hw hl
          unfold J_M_sheet_60 at hV
          refine x_aload_n X dX8_sheet_60 rfl (lv_at hl 0 rfl) ?_
          refine x_getr X hw lm0 cX8 29 (by decide) rfl n_M_sheet_4 n_M_sheet_3 dX8_sheet_61 ?_
          refine x_iload_n X dX8_sheet_64 rfl (lv_at hl 1 rfl) ?_
          refine x_iload_n X dX8_sheet_65 rfl (lv_at hl 2 rfl) ?_
          obtain ⟨hi, hV⟩ := hV
          refine x_iast X hw lm24 rfl rfl hi dX8_sheet_66 (fun H locs σ9 hs hw => ?_)
          replace hV := hV σ9 hs
          refine x_aload_n X dX8_sheet_67 rfl (lv_at hl 0 rfl) ?_
          refine x_getr X hw lm0 cX8 30 (by decide) rfl n_M_sheet_4 n_M_sheet_5 dX8_sheet_68 ?_
          refine x_iload_n X dX8_sheet_71 rfl (lv_at hl 1 rfl) ?_
          refine x_iload_n X dX8_sheet_72 rfl (lv_at hl 2 rfl) ?_
          have hJ81 : ∀ (y2_10 : Int) (σ11 : St) (H : Heap) (locs : List Loc) (ls : Array Slot), J_M_sheet_81 a1 Q y2_10 σ11 → Wx vwCl G LM ad s H locs σ11 → lv_has ls 5 [(0, .ref (ad 0)), (1, iV a1)] → W p l e R s m args below meth c H locs 0 0 QQ (F0 m 81 ls [iV y2_10, iV a1, .ref (ad 25)]) := by
            intro y2_10 σ11 H locs ls hV hw hl
            unfold J_M_sheet_81 at hV
            obtain ⟨hi, hV⟩ := hV
            refine x_iast X hw lm25 rfl rfl hi dX8_sheet_81 (fun H locs σ12 hs hw => ?_)
            replace hV := hV σ12 hs
            refine x_iconst X dX8_sheet_82 ?_
            refine x_istore X [(4, iV 0), (0, .ref (ad 0)), (1, iV a1)] dX8_sheet_83 hl (by decide) rfl (fun ls hl => ?_)
            refine WL1.use (Gl := fun x4_13 σ14 => ∀ (H : Heap) (locs : List Loc) (ls : Array Slot), Wx vwCl G LM ad s H locs σ14 → lv_has ls 5 [(4, iV x4_13), (0, .ref (ad 0)), (1, iV a1)] → W p l e R s m args below meth c H locs 0 0 QQ (F0 m 85 ls [])) ?_ hV H locs ls hw hl
            clear hV hw hl H locs ls
            intro bk15 x4_13 σ14 hbk15 hV H locs ls hw hl
            refine x_iload X dX8_sheet_85 (lv_at hl 0 rfl) ?_
            refine x_bipush X dX8_sheet_87 (by decide) ?_
            refine x_icmp_ge X rfl k32_60 111 dX8_sheet_89 (by decide) (fun hc => ?_) (fun hc => ?_)
            · replace hV := hV.1 hc
              refine x_iconst X dX8_sheet_111 ?_
              exact hret 1 σ14 H locs ls 112 hV hw dX8_sheet_112
            · replace hV := hV.2 hc
              refine x_aload_n X dX8_sheet_92 rfl (lv_at hl 1 rfl) ?_
              refine x_getr X hw lm0 cX8 31 (by decide) rfl n_M_sheet_4 n_M_sheet_6 dX8_sheet_93 ?_
              refine x_bipush X dX8_sheet_96 (by decide) ?_
              refine x_iload_n X dX8_sheet_98 rfl (lv_at hl 2 rfl) ?_
              refine x_imul X dX8_sheet_99 ?_
              refine x_iload X dX8_sheet_100 (lv_at hl 0 rfl) ?_
              refine x_iadd X dX8_sheet_102 ?_
              refine x_lconst X 0 dX8_sheet_103 rfl ?_
              obtain ⟨hi, hV⟩ := hV
              refine x_last X hw lm26 rfl rfl hi dX8_sheet_104 (fun H locs σ16 hs hw => ?_)
              replace hV := hV σ16 hs
              refine x_iinc X (k := 0) (x4_13 + 1) [(4, iV (x4_13 + 1)), (0, .ref (ad 0)), (1, iV a1)] dX8_sheet_105 hl rfl rfl (by decide) rfl (fun ls hl => ?_)
              refine x_goto X 85 dX8_sheet_108 (by decide) ?_
              exact hbk15 (x4_13 + 1) σ16 hV H locs ls hw hl
          refine x_if_ge X rfl 80 dX8_sheet_73 (by decide) (fun hc => ?_) (fun hc => ?_)
          · replace hV := hV.1 hc
            refine x_iload_n X dX8_sheet_80 rfl (lv_at hl 3 rfl) ?_
            exact hJ81 a3 σ9 H locs ls hV hw (lv_sub hl [0, 1] rfl)
          · replace hV := hV.2 hc
            refine x_iconst X dX8_sheet_76 ?_
            refine x_goto X 81 dX8_sheet_77 (by decide) ?_
            exact hJ81 0 σ9 H locs ls hV hw (lv_sub hl [0, 1] rfl)
        refine x_if_lt X rfl 60 dX8_sheet_44 (by decide) (fun hc => ?_) (fun hc => ?_)
        · replace hV := hV.1 hc
          exact hJ60 σ7 H locs ls hV hw hl
        · replace hV := hV.2 hc
          refine x_iload_n X dX8_sheet_47 rfl (lv_at hl 3 rfl) ?_
          refine x_bipush X dX8_sheet_48 (by decide) ?_
          refine x_icmp_le X rfl k32_60 60 dX8_sheet_50 (by decide) (fun hc => ?_) (fun hc => ?_)
          · replace hV := hV.1 hc
            exact hJ60 σ7 H locs ls hV hw hl
          · replace hV := hV.2 hc
            refine x_aload_n X dX8_sheet_53 rfl (lv_at hl 0 rfl) ?_
            refine x_ldc X (-1000000001) n_M_sheet_0 (by decide) dX8_sheet_54 ?_
            refine x_cvi X hw [iV (-1000000001)] [] (c_M_errs l G ad hI σ7 (-1000000001) hV) (cwV 1 X.2.2.2.2 gX8_sheet_X8_errs rfl rfl rfl hd_M_errs ⟨x_fr hR.1 rfl, x_fr hR.2 rfl⟩) lm0 cX8 rfl hl.1 rfl (Nat.le_of_ble_eq_true rfl) dX8_sheet_56 ⟨Nat.zero_le _, Nat.zero_le _⟩ (fun r18 σ17 H locs hV hw => ?_)
            exact hret r18 σ17 H locs ls 59 hV hw dX8_sheet_59
      refine x_if_lt X rfl 43 dX8_sheet_29 (by decide) (fun hc => ?_) (fun hc => ?_)
      · replace hV := hV.1 hc
        exact hJ43 σ5 H locs ls hV hw hl
      · replace hV := hV.2 hc
        refine x_iload_n X dX8_sheet_32 rfl (lv_at hl 3 rfl) ?_
        refine x_if_ge X rfl 43 dX8_sheet_33 (by decide) (fun hc => ?_) (fun hc => ?_)
        · replace hV := hV.1 hc
          exact hJ43 σ5 H locs ls hV hw hl
        · replace hV := hV.2 hc
          refine x_aload_n X dX8_sheet_36 rfl (lv_at hl 0 rfl) ?_
          refine x_ldc X (-1000000003) n_M_sheet_7 (by decide) dX8_sheet_37 ?_
          refine x_cvi X hw [iV (-1000000003)] [] (c_M_errs l G ad hI σ5 (-1000000003) hV) (cwV 1 X.2.2.2.2 gX8_sheet_X8_errs rfl rfl rfl hd_M_errs ⟨x_fr hR.1 rfl, x_fr hR.2 rfl⟩) lm0 cX8 rfl hl.1 rfl (Nat.le_of_ble_eq_true rfl) dX8_sheet_39 ⟨Nat.zero_le _, Nat.zero_le _⟩ (fun r20 σ19 H locs hV hw => ?_)
          exact hret r20 σ19 H locs ls 42 hV hw dX8_sheet_42
    · replace hV := hV.2 hc
      refine x_aload_n X dX8_sheet_21 rfl (lv_at hl 0 rfl) ?_
      refine x_ldc X (-1000000001) n_M_sheet_0 (by decide) dX8_sheet_22 ?_
      refine x_cvi X hw [iV (-1000000001)] [] (c_M_errs l G ad hI σ5 (-1000000001) hV) (cwV 1 X.2.2.2.2 gX8_sheet_X8_errs rfl rfl rfl hd_M_errs ⟨x_fr hR.1 rfl, x_fr hR.2 rfl⟩) lm0 cX8 rfl hl.1 rfl (Nat.le_of_ble_eq_true rfl) dX8_sheet_24 ⟨Nat.zero_le _, Nat.zero_le _⟩ (fun r22 σ21 H locs hV hw => ?_)
      exact hret r22 σ21 H locs ls 27 hV hw dX8_sheet_27

theorem n_M_isItem_0 : Cond.fieldLink RX8 80 "LacePillowModel" "sort" "[I" ∈ wsX8_isItem := by decide +kernel
theorem n_M_isItem_1 : ∀ w ∈ wsX80, w ∈ wsX8_isItem := by decide +kernel
theorem n_M_isItem_2 : Cond.fieldLink RX8 83 "LacePillowModel" "size" "[I" ∈ wsX8_isItem := by decide +kernel
set_option maxHeartbeats 4000000 in
set_option maxRecDepth 100000 in
theorem c_M_isItem (l : Launch) (G : GT) (ad : Nat → Nat) (hI : Inj LM ad) (σ : St) (a1 : Int) (a2 : Int) {Q : Int → St → Prop} (hV : V_M_isItem σ a1 a2 Q) : Met l yX8_isItem wsX8_isItem (rmx 1 25) (Pq vwCl G LM ad σ [.ref (ad 0), iV a1, iV a2]) (Qz vwCl G LM ad Q) 0 0 (Ax LM ad) := by
  unfold V_M_isItem at hV
  refine x_metz (own := RX8) (by decide) rfl rfl (Nat.le_of_ble_eq_true rfl) hI ?_
  intro p e s m args below meth c R QQ X hR hret ls hl hw
  replace hl : lv_has ls 3 [(0, .ref (ad 0)), (1, iV a1), (2, iV a2)] := hl
  obtain ⟨H, hH⟩ : ∃ z, z = s.heap := ⟨_, rfl⟩
  obtain ⟨locs, hlo⟩ : ∃ z : List Loc, z = [] := ⟨_, rfl⟩
  rw [← hH, ← hlo]
  replace hw : Wx vwCl G LM ad s H locs σ := by rw [hH, hlo]; exact hw
  clear hH hlo
  refine x_aload_n X dX8_isItem_0 rfl (lv_at hl 0 rfl) ?_
  refine x_getr X hw lm0 cX8 29 (by decide) rfl n_M_isItem_1 n_M_isItem_0 dX8_isItem_1 ?_
  refine x_iload_n X dX8_isItem_4 rfl (lv_at hl 1 rfl) ?_
  obtain ⟨hi, hV⟩ := hV
  refine x_iald X hw lm24 rfl rfl hi dX8_isItem_5 ?_
  refine x_if_lt X rfl 31 dX8_isItem_6 (by decide) (fun hc => ?_) (fun hc => ?_)
  · replace hV := hV.1 hc
    refine x_iconst X dX8_isItem_31 ?_
    exact hret 0 σ H locs ls 32 (by decide) hV hw dX8_isItem_32
  · replace hV := hV.2 hc
    refine x_iload_n X dX8_isItem_9 rfl (lv_at hl 2 rfl) ?_
    refine x_i2l X dX8_isItem_10 ?_
    refine x_lconst X 0 dX8_isItem_11 rfl ?_
    refine x_aload_n X dX8_isItem_12 rfl (lv_at hl 0 rfl) ?_
    refine x_getr X hw lm0 cX8 30 (by decide) rfl n_M_isItem_1 n_M_isItem_2 dX8_isItem_13 ?_
    refine x_iload_n X dX8_isItem_16 rfl (lv_at hl 1 rfl) ?_
    obtain ⟨hi, hV⟩ := hV
    refine x_iald X hw lm25 rfl rfl hi dX8_isItem_17 ?_
    refine x_iconst X dX8_isItem_18 ?_
    refine x_isub X dX8_isItem_19 ?_
    refine x_i2l X dX8_isItem_20 ?_
    refine x_csz X hw [lV (i32 a2), lV 0, lV (i32 ((σ 25 (i32 a1)) - 1))] [] (c_M_in l G ad hI σ (i32 a2) 0 (i32 ((σ 25 (i32 a1)) - 1)) hV) (va_cwS 3 X.2.2.2.2 gX8_isItem_X8_in rfl rfl rfl hd_M_in ⟨x_fr hR.1 rfl, x_fr hR.2 rfl⟩) rfl hl.1 rfl (Nat.le_of_ble_eq_true rfl) dX8_isItem_21 ⟨Nat.zero_le _, Nat.zero_le _⟩ (fun r2 σ1 H locs hr2 hV hw => ?_)
    refine x_if_eq X rfl 31 dX8_isItem_24 (by decide) (fun hc => ?_) (fun hc => ?_)
    · replace hV := hV.1 hc
      refine x_iconst X dX8_isItem_31 ?_
      exact hret 0 σ1 H locs ls 32 (by decide) hV hw dX8_isItem_32
    · replace hV := hV.2 hc
      refine x_iconst X dX8_isItem_27 ?_
      refine x_goto X 32 dX8_isItem_28 (by decide) ?_
      exact hret 1 σ1 H locs ls 32 (by decide) hV hw dX8_isItem_32

theorem n_M_put_0 : Cond.fieldLink RX8 86 "LacePillowModel" "items" "[J" ∈ wsX8_put := by decide +kernel
theorem n_M_put_1 : ∀ w ∈ wsX80, w ∈ wsX8_put := by decide +kernel
theorem n_M_put_2 : Cond.fieldLink RX8 80 "LacePillowModel" "sort" "[I" ∈ wsX8_put := by decide +kernel
theorem n_M_put_3 : Cond.constant RX8 275 (-1000000007) ∈ wsX8_put := by decide +kernel
theorem n_M_put_4 : Cond.constant RX8 149 (-1000000001) ∈ wsX8_put := by decide +kernel
set_option maxHeartbeats 4000000 in
set_option maxRecDepth 100000 in
theorem c_M_put (l : Launch) (G : GT) (ad : Nat → Nat) (hI : Inj LM ad) (σ : St) (a1 : Int) (a2 : Int) (a3 : Int) {Q : Int → St → Prop} (hV : V_M_put σ a1 a2 a3 Q) : Met l yX8_put wsX8_put (rmx 2 47) (Pq vwCl G LM ad σ [.ref (ad 0), iV a1, iV a2, lV a3]) (Qi vwCl G LM ad Q) 0 0 (Ax LM ad) := by
  unfold V_M_put at hV
  refine x_meti (own := RX8) (by decide) rfl rfl (Nat.le_of_ble_eq_true rfl) hI ?_
  intro p e s m args below meth c R QQ X hR hret ls hl hw
  replace hl : lv_has ls 5 [(0, .ref (ad 0)), (1, iV a1), (2, iV a2), (3, lV a3)] := hl
  obtain ⟨H, hH⟩ : ∃ z, z = s.heap := ⟨_, rfl⟩
  obtain ⟨locs, hlo⟩ : ∃ z : List Loc, z = [] := ⟨_, rfl⟩
  rw [← hH, ← hlo]
  replace hw : Wx vwCl G LM ad s H locs σ := by rw [hH, hlo]; exact hw
  clear hH hlo
  refine x_iload_n X dX8_put_0 rfl (lv_at hl 1 rfl) ?_
  refine x_csz X hw [iV a1] [] (c_M_isSheet l G ad hI σ a1 hV) (va_cwS 1 X.2.2.2.2 gX8_put_X8_isSheet rfl rfl rfl hd_M_isSheet ⟨x_fr hR.1 rfl, x_fr hR.2 rfl⟩) rfl hl.1 rfl (Nat.le_of_ble_eq_true rfl) dX8_put_1 ⟨Nat.zero_le _, Nat.zero_le _⟩ (fun r2 σ1 H locs hr2 hV hw => ?_)
  refine x_if_ne X rfl 14 dX8_put_4 (by decide) (fun hc => ?_) (fun hc => ?_)
  · replace hV := hV.1 hc
    refine x_aload_n X dX8_put_14 rfl (lv_at hl 0 rfl) ?_
    refine x_iload_n X dX8_put_15 rfl (lv_at hl 1 rfl) ?_
    refine x_iload_n X dX8_put_16 rfl (lv_at hl 2 rfl) ?_
    refine x_cvz X hw [iV a1, iV a2] [] (c_M_isItem l G ad hI σ1 a1 a2 hV) (cwV 2 X.2.2.2.2 gX8_put_X8_isItem rfl rfl rfl hd_M_isItem ⟨x_fr hR.1 rfl, x_fr hR.2 rfl⟩) lm0 cX8 rfl hl.1 rfl (Nat.le_of_ble_eq_true rfl) dX8_put_17 ⟨Nat.zero_le _, Nat.zero_le _⟩ (fun r4 σ3 H locs hr4 hV hw => ?_)
    refine x_if_ne X rfl 31 dX8_put_20 (by decide) (fun hc => ?_) (fun hc => ?_)
    · replace hV := hV.1 hc
      refine x_aload_n X dX8_put_31 rfl (lv_at hl 0 rfl) ?_
      refine x_getr X hw lm0 cX8 31 (by decide) rfl n_M_put_1 n_M_put_0 dX8_put_32 ?_
      refine x_bipush X dX8_put_35 (by decide) ?_
      refine x_iload_n X dX8_put_37 rfl (lv_at hl 1 rfl) ?_
      refine x_imul X dX8_put_38 ?_
      refine x_iload_n X dX8_put_39 rfl (lv_at hl 2 rfl) ?_
      refine x_iadd X dX8_put_40 ?_
      refine x_aload_n X dX8_put_41 rfl (lv_at hl 0 rfl) ?_
      refine x_getr X hw lm0 cX8 29 (by decide) rfl n_M_put_1 n_M_put_2 dX8_put_42 ?_
      refine x_iload_n X dX8_put_45 rfl (lv_at hl 1 rfl) ?_
      obtain ⟨hi, hV⟩ := hV
      refine x_iald X hw lm24 rfl rfl hi dX8_put_46 ?_
      refine x_if_ne X rfl 64 dX8_put_47 (by decide) (fun hc => ?_) (fun hc => ?_)
      · replace hV := hV.1 hc
        refine x_aload_n X dX8_put_64 rfl (lv_at hl 0 rfl) ?_
        refine x_getr X hw lm0 cX8 29 (by decide) rfl n_M_put_1 n_M_put_2 dX8_put_65 ?_
        refine x_iload_n X dX8_put_68 rfl (lv_at hl 1 rfl) ?_
        obtain ⟨hi, hV⟩ := hV
        refine x_iald X hw lm24 rfl rfl hi dX8_put_69 ?_
        refine x_iconst X dX8_put_70 ?_
        refine x_icmp_ne X rfl k32_1 81 dX8_put_71 (by decide) (fun hc => ?_) (fun hc => ?_)
        · replace hV := hV.1 hc
          refine x_aload_n X dX8_put_81 rfl (lv_at hl 0 rfl) ?_
          refine x_getr X hw lm0 cX8 29 (by decide) rfl n_M_put_1 n_M_put_2 dX8_put_82 ?_
          refine x_iload_n X dX8_put_85 rfl (lv_at hl 1 rfl) ?_
          obtain ⟨hi, hV⟩ := hV
          refine x_iald X hw lm24 rfl rfl hi dX8_put_86 ?_
          refine x_iconst X dX8_put_87 ?_
          refine x_icmp_ne X rfl k32_2 97 dX8_put_88 (by decide) (fun hc => ?_) (fun hc => ?_)
          · replace hV := hV.1 hc
            refine x_lload_n X dX8_put_97 rfl (lv_at hl 3 rfl) ?_
            obtain ⟨hi, hV⟩ := hV
            refine x_last X hw lm26 rfl rfl hi dX8_put_98 (fun H locs σ5 hs hw => ?_)
            replace hV := hV σ5 hs
            refine x_iconst X dX8_put_99 ?_
            exact hret 1 σ5 H locs ls 100 hV hw dX8_put_100
          · replace hV := hV.2 hc
            refine x_lload_n X dX8_put_91 rfl (lv_at hl 3 rfl) ?_
            refine x_l2i X dX8_put_92 ?_
            refine x_i2l X dX8_put_93 ?_
            refine x_goto X 98 dX8_put_94 (by decide) ?_
            obtain ⟨hi, hV⟩ := hV
            refine x_last X hw lm26 rfl rfl hi dX8_put_98 (fun H locs σ6 hs hw => ?_)
            replace hV := hV σ6 hs
            refine x_iconst X dX8_put_99 ?_
            exact hret 1 σ6 H locs ls 100 hV hw dX8_put_100
        · replace hV := hV.2 hc
          refine x_lload_n X dX8_put_74 rfl (lv_at hl 3 rfl) ?_
          refine x_l2i X dX8_put_75 ?_
          refine x_i2s X dX8_put_76 ?_
          refine x_i2l X dX8_put_77 ?_
          refine x_goto X 98 dX8_put_78 (by decide) ?_
          obtain ⟨hi, hV⟩ := hV
          refine x_last X hw lm26 rfl rfl hi dX8_put_98 (fun H locs σ7 hs hw => ?_)
          replace hV := hV σ7 hs
          refine x_iconst X dX8_put_99 ?_
          exact hret 1 σ7 H locs ls 100 hV hw dX8_put_100
      · replace hV := hV.2 hc
        refine x_lload_n X dX8_put_50 rfl (lv_at hl 3 rfl) ?_
        refine x_lconst X 0 dX8_put_51 rfl ?_
        refine x_lcmp_ne X rfl k64_0 60 dX8_put_52 dX8_put_53 (by decide) (fun hc => ?_) (fun hc => ?_)
        · replace hV := hV.1 hc
          refine x_lconst X 1 dX8_put_60 rfl ?_
          refine x_goto X 98 dX8_put_61 (by decide) ?_
          obtain ⟨hi, hV⟩ := hV
          refine x_last X hw lm26 rfl rfl hi dX8_put_98 (fun H locs σ8 hs hw => ?_)
          replace hV := hV σ8 hs
          refine x_iconst X dX8_put_99 ?_
          exact hret 1 σ8 H locs ls 100 hV hw dX8_put_100
        · replace hV := hV.2 hc
          refine x_lconst X 0 dX8_put_56 rfl ?_
          refine x_goto X 98 dX8_put_57 (by decide) ?_
          obtain ⟨hi, hV⟩ := hV
          refine x_last X hw lm26 rfl rfl hi dX8_put_98 (fun H locs σ9 hs hw => ?_)
          replace hV := hV σ9 hs
          refine x_iconst X dX8_put_99 ?_
          exact hret 1 σ9 H locs ls 100 hV hw dX8_put_100
    · replace hV := hV.2 hc
      refine x_aload_n X dX8_put_23 rfl (lv_at hl 0 rfl) ?_
      refine x_ldcw X (-1000000007) n_M_put_3 (by decide) dX8_put_24 ?_
      refine x_cvi X hw [iV (-1000000007)] [] (c_M_errs l G ad hI σ3 (-1000000007) hV) (cwV 1 X.2.2.2.2 gX8_put_X8_errs rfl rfl rfl hd_M_errs ⟨x_fr hR.1 rfl, x_fr hR.2 rfl⟩) lm0 cX8 rfl hl.1 rfl (Nat.le_of_ble_eq_true rfl) dX8_put_27 ⟨Nat.zero_le _, Nat.zero_le _⟩ (fun r11 σ10 H locs hV hw => ?_)
      exact hret r11 σ10 H locs ls 30 hV hw dX8_put_30
  · replace hV := hV.2 hc
    refine x_aload_n X dX8_put_7 rfl (lv_at hl 0 rfl) ?_
    refine x_ldc X (-1000000001) n_M_put_4 (by decide) dX8_put_8 ?_
    refine x_cvi X hw [iV (-1000000001)] [] (c_M_errs l G ad hI σ1 (-1000000001) hV) (cwV 1 X.2.2.2.2 gX8_put_X8_errs rfl rfl rfl hd_M_errs ⟨x_fr hR.1 rfl, x_fr hR.2 rfl⟩) lm0 cX8 rfl hl.1 rfl (Nat.le_of_ble_eq_true rfl) dX8_put_10 ⟨Nat.zero_le _, Nat.zero_le _⟩ (fun r13 σ12 H locs hV hw => ?_)
    exact hret r13 σ12 H locs ls 13 hV hw dX8_put_13

theorem n_M_number_0 : Cond.constant RX8 275 (-1000000007) ∈ wsX8_number := by decide +kernel
theorem n_M_number_1 : Cond.fieldLink RX8 86 "LacePillowModel" "items" "[J" ∈ wsX8_number := by decide +kernel
theorem n_M_number_2 : ∀ w ∈ wsX80, w ∈ wsX8_number := by decide +kernel
theorem n_M_number_3 : Cond.constant RX8 149 (-1000000001) ∈ wsX8_number := by decide +kernel
set_option maxHeartbeats 4000000 in
set_option maxRecDepth 100000 in
theorem c_M_number (l : Launch) (G : GT) (ad : Nat → Nat) (hI : Inj LM ad) (σ : St) (a1 : Int) (a2 : Int) {Q : Int → St → Prop} (hV : V_M_number σ a1 a2 Q) : Met l yX8_number wsX8_number (rmx 2 47) (Pq vwCl G LM ad σ [.ref (ad 0), iV a1, iV a2]) (Ql vwCl G LM ad Q) 0 0 (Ax LM ad) := by
  unfold V_M_number at hV
  refine x_metl (own := RX8) (by decide) rfl rfl (Nat.le_of_ble_eq_true rfl) hI ?_
  intro p e s m args below meth c R QQ X hR hret ls hl hw
  replace hl : lv_has ls 3 [(0, .ref (ad 0)), (1, iV a1), (2, iV a2)] := hl
  obtain ⟨H, hH⟩ : ∃ z, z = s.heap := ⟨_, rfl⟩
  obtain ⟨locs, hlo⟩ : ∃ z : List Loc, z = [] := ⟨_, rfl⟩
  rw [← hH, ← hlo]
  replace hw : Wx vwCl G LM ad s H locs σ := by rw [hH, hlo]; exact hw
  clear hH hlo
  refine x_iload_n X dX8_number_0 rfl (lv_at hl 1 rfl) ?_
  refine x_csz X hw [iV a1] [] (c_M_isSheet l G ad hI σ a1 hV) (va_cwS 1 X.2.2.2.2 gX8_number_X8_isSheet rfl rfl rfl hd_M_isSheet ⟨x_fr hR.1 rfl, x_fr hR.2 rfl⟩) rfl hl.1 rfl (Nat.le_of_ble_eq_true rfl) dX8_number_1 ⟨Nat.zero_le _, Nat.zero_le _⟩ (fun r2 σ1 H locs hr2 hV hw => ?_)
  refine x_if_ne X rfl 14 dX8_number_4 (by decide) (fun hc => ?_) (fun hc => ?_)
  · replace hV := hV.1 hc
    refine x_aload_n X dX8_number_14 rfl (lv_at hl 0 rfl) ?_
    refine x_iload_n X dX8_number_15 rfl (lv_at hl 1 rfl) ?_
    refine x_iload_n X dX8_number_16 rfl (lv_at hl 2 rfl) ?_
    refine x_cvz X hw [iV a1, iV a2] [] (c_M_isItem l G ad hI σ1 a1 a2 hV) (cwV 2 X.2.2.2.2 gX8_number_X8_isItem rfl rfl rfl hd_M_isItem ⟨x_fr hR.1 rfl, x_fr hR.2 rfl⟩) lm0 cX8 rfl hl.1 rfl (Nat.le_of_ble_eq_true rfl) dX8_number_17 ⟨Nat.zero_le _, Nat.zero_le _⟩ (fun r4 σ3 H locs hr4 hV hw => ?_)
    refine x_if_eq X rfl 37 dX8_number_20 (by decide) (fun hc => ?_) (fun hc => ?_)
    · replace hV := hV.1 hc
      refine x_aload_n X dX8_number_37 rfl (lv_at hl 0 rfl) ?_
      refine x_ldcw X (-1000000007) n_M_number_0 (by decide) dX8_number_38 ?_
      refine x_cvl X hw [iV (-1000000007)] [] (c_M_errsLong l G ad hI σ3 (-1000000007) hV) (cwV 1 X.2.2.2.2 gX8_number_X8_errsLong rfl rfl rfl hd_M_errsLong ⟨x_fr hR.1 rfl, x_fr hR.2 rfl⟩) lm0 cX8 rfl hl.1 rfl (Nat.le_of_ble_eq_true rfl) dX8_number_41 ⟨Nat.zero_le _, Nat.zero_le _⟩ (fun r6 σ5 H locs hV hw => ?_)
      exact hret r6 σ5 H locs ls 44 hV hw dX8_number_44
    · replace hV := hV.2 hc
      refine x_aload_n X dX8_number_23 rfl (lv_at hl 0 rfl) ?_
      refine x_getr X hw lm0 cX8 31 (by decide) rfl n_M_number_2 n_M_number_1 dX8_number_24 ?_
      refine x_bipush X dX8_number_27 (by decide) ?_
      refine x_iload_n X dX8_number_29 rfl (lv_at hl 1 rfl) ?_
      refine x_imul X dX8_number_30 ?_
      refine x_iload_n X dX8_number_31 rfl (lv_at hl 2 rfl) ?_
      refine x_iadd X dX8_number_32 ?_
      obtain ⟨hi, hV⟩ := hV
      refine x_lald X hw lm26 rfl rfl hi dX8_number_33 ?_
      refine x_goto X 44 dX8_number_34 (by decide) ?_
      exact hret (σ3 26 (i32 ((60 * a1) + a2))) σ3 H locs ls 44 hV hw dX8_number_44
  · replace hV := hV.2 hc
    refine x_aload_n X dX8_number_7 rfl (lv_at hl 0 rfl) ?_
    refine x_ldc X (-1000000001) n_M_number_3 (by decide) dX8_number_8 ?_
    refine x_cvl X hw [iV (-1000000001)] [] (c_M_errsLong l G ad hI σ1 (-1000000001) hV) (cwV 1 X.2.2.2.2 gX8_number_X8_errsLong rfl rfl rfl hd_M_errsLong ⟨x_fr hR.1 rfl, x_fr hR.2 rfl⟩) lm0 cX8 rfl hl.1 rfl (Nat.le_of_ble_eq_true rfl) dX8_number_10 ⟨Nat.zero_le _, Nat.zero_le _⟩ (fun r8 σ7 H locs hV hw => ?_)
    exact hret r8 σ7 H locs ls 13 hV hw dX8_number_13

theorem n_M_image_0 : Cond.fieldLink RX8 9 "LacePillowModel" "now" "[I" ∈ wsX8_image := by decide +kernel
theorem n_M_image_1 : ∀ w ∈ wsX80, w ∈ wsX8_image := by decide +kernel
theorem n_M_image_2 : Cond.fieldLink RX8 13 "LacePillowModel" "kept" "[I" ∈ wsX8_image := by decide +kernel
theorem n_M_image_3 : Cond.fieldLink RX8 339 "LacePillowModel" "isKept" "Z" ∈ wsX8_image := by decide +kernel
set_option maxHeartbeats 4000000 in
set_option maxRecDepth 100000 in
theorem c_M_image (l : Launch) (G : GT) (ad : Nat → Nat) (hI : Inj LM ad) (σ : St) {Q : Int → St → Prop} (hV : V_M_image σ Q) : Met l yX8_image wsX8_image (rmx 1 22) (Pq vwCl G LM ad σ [.ref (ad 0)]) (Qi vwCl G LM ad Q) 0 0 (Ax LM ad) := by
  unfold V_M_image at hV
  refine x_meti (own := RX8) (by decide) rfl rfl (Nat.le_of_ble_eq_true rfl) hI ?_
  intro p e s m args below meth c R QQ X hR hret ls hl hw
  replace hl : lv_has ls 1 [(0, .ref (ad 0))] := hl
  obtain ⟨H, hH⟩ : ∃ z, z = s.heap := ⟨_, rfl⟩
  obtain ⟨locs, hlo⟩ : ∃ z : List Loc, z = [] := ⟨_, rfl⟩
  rw [← hH, ← hlo]
  replace hw : Wx vwCl G LM ad s H locs σ := by rw [hH, hlo]; exact hw
  clear hH hlo
  refine x_aload_n X dX8_image_0 rfl (lv_at hl 0 rfl) ?_
  refine x_getr X hw lm0 cX8 0 (by decide) rfl n_M_image_1 n_M_image_0 dX8_image_1 ?_
  refine x_aload_n X dX8_image_4 rfl (lv_at hl 0 rfl) ?_
  refine x_getr X hw lm0 cX8 1 (by decide) rfl n_M_image_1 n_M_image_2 dX8_image_5 ?_
  refine x_csv X hw [.ref (ad 1), .ref (ad 2)] [] (c_M_copy l G ad hI 1 2 lm1 lm2 σ hV) (va_cwS 2 X.2.2.2.2 gX8_image_X8_copy rfl rfl rfl hd_M_copy ⟨x_fr hR.1 rfl, x_fr hR.2 rfl⟩) rfl hl.1 rfl (Nat.le_of_ble_eq_true rfl) dX8_image_8 ⟨Nat.zero_le _, Nat.zero_le _⟩ (fun σ1 H locs hV hw => ?_)
  refine x_aload_n X dX8_image_11 rfl (lv_at hl 0 rfl) ?_
  refine x_iconst X dX8_image_12 ?_
  refine x_puti X hw lm0 cX8 3 (by decide) rfl n_M_image_1 n_M_image_3 tyX8 tyX8_ok nmX8 rfl rfl rfl dX8_image_13 (fun H locs σ2 hs hw => ?_)
  replace hV := hV σ2 hs
  refine x_aload_n X dX8_image_16 rfl (lv_at hl 0 rfl) ?_
  refine x_getr X hw lm0 cX8 0 (by decide) rfl n_M_image_1 n_M_image_0 dX8_image_17 ?_
  refine x_iconst X dX8_image_20 ?_
  refine x_iald X hw lm1 k32_1 rfl (show (0 : Int) ≤ 1 ∧ (1 : Int) < 204 by decide) dX8_image_21 ?_
  exact hret (σ2 1 1) σ2 H locs ls 22 hV hw dX8_image_22

theorem n_M_restore_0 : Cond.fieldLink RX8 339 "LacePillowModel" "isKept" "Z" ∈ wsX8_restore := by decide +kernel
theorem n_M_restore_1 : ∀ w ∈ wsX80, w ∈ wsX8_restore := by decide +kernel
theorem n_M_restore_2 : Cond.fieldLink RX8 13 "LacePillowModel" "kept" "[I" ∈ wsX8_restore := by decide +kernel
theorem n_M_restore_3 : Cond.fieldLink RX8 9 "LacePillowModel" "now" "[I" ∈ wsX8_restore := by decide +kernel
theorem n_M_restore_4 : Cond.constant RX8 249 (-1000000002) ∈ wsX8_restore := by decide +kernel
set_option maxHeartbeats 4000000 in
set_option maxRecDepth 100000 in
theorem c_M_restore (l : Launch) (G : GT) (ad : Nat → Nat) (hI : Inj LM ad) (σ : St) {Q : Int → St → Prop} (hV : V_M_restore σ Q) : Met l yX8_restore wsX8_restore (rmx 3 68) (Pq vwCl G LM ad σ [.ref (ad 0)]) (Qi vwCl G LM ad Q) 0 0 (Ax LM ad) := by
  unfold V_M_restore at hV
  refine x_meti (own := RX8) (by decide) rfl rfl (Nat.le_of_ble_eq_true rfl) hI ?_
  intro p e s m args below meth c R QQ X hR hret ls hl hw
  replace hl : lv_has ls 1 [(0, .ref (ad 0))] := hl
  obtain ⟨H, hH⟩ : ∃ z, z = s.heap := ⟨_, rfl⟩
  obtain ⟨locs, hlo⟩ : ∃ z : List Loc, z = [] := ⟨_, rfl⟩
  rw [← hH, ← hlo]
  replace hw : Wx vwCl G LM ad s H locs σ := by rw [hH, hlo]; exact hw
  clear hH hlo
  refine x_aload_n X dX8_restore_0 rfl (lv_at hl 0 rfl) ?_
  refine x_geti X hw lm0 cX8 3 (by decide) rfl n_M_restore_1 n_M_restore_0 dX8_restore_1 ?_
  refine x_if_ne X rfl 14 dX8_restore_4 (by decide) (fun hc => ?_) (fun hc => ?_)
  · replace hV := hV.1 hc
    refine x_aload_n X dX8_restore_14 rfl (lv_at hl 0 rfl) ?_
    refine x_getr X hw lm0 cX8 1 (by decide) rfl n_M_restore_1 n_M_restore_2 dX8_restore_15 ?_
    refine x_aload_n X dX8_restore_18 rfl (lv_at hl 0 rfl) ?_
    refine x_getr X hw lm0 cX8 0 (by decide) rfl n_M_restore_1 n_M_restore_3 dX8_restore_19 ?_
    refine x_csv X hw [.ref (ad 2), .ref (ad 1)] [] (c_M_copy l G ad hI 2 1 lm2 lm1 σ hV) (va_cwS 2 X.2.2.2.2 gX8_restore_X8_copy rfl rfl rfl hd_M_copy ⟨x_fr hR.1 rfl, x_fr hR.2 rfl⟩) rfl hl.1 rfl (Nat.le_of_ble_eq_true rfl) dX8_restore_22 ⟨Nat.zero_le _, Nat.zero_le _⟩ (fun σ1 H locs hV hw => ?_)
    refine x_aload_n X dX8_restore_25 rfl (lv_at hl 0 rfl) ?_
    refine x_cvv X hw [] [] (c_M_lists l G ad hI σ1 hV) (cwV 0 X.2.2.2.2 gX8_restore_X8_lists rfl rfl rfl hd_M_lists ⟨x_fr hR.1 rfl, x_fr hR.2 rfl⟩) lm0 cX8 rfl hl.1 rfl (Nat.le_of_ble_eq_true rfl) dX8_restore_26 ⟨Nat.zero_le _, Nat.zero_le _⟩ (fun σ2 H locs hV hw => ?_)
    refine x_aload_n X dX8_restore_29 rfl (lv_at hl 0 rfl) ?_
    refine x_getr X hw lm0 cX8 0 (by decide) rfl n_M_restore_1 n_M_restore_3 dX8_restore_30 ?_
    refine x_iconst X dX8_restore_33 ?_
    refine x_iald X hw lm1 k32_1 rfl (show (0 : Int) ≤ 1 ∧ (1 : Int) < 204 by decide) dX8_restore_34 ?_
    exact hret (σ2 1 1) σ2 H locs ls 35 hV hw dX8_restore_35
  · replace hV := hV.2 hc
    refine x_aload_n X dX8_restore_7 rfl (lv_at hl 0 rfl) ?_
    refine x_ldc X (-1000000002) n_M_restore_4 (by decide) dX8_restore_8 ?_
    refine x_cvi X hw [iV (-1000000002)] [] (c_M_errs l G ad hI σ (-1000000002) hV) (cwV 1 X.2.2.2.2 gX8_restore_X8_errs rfl rfl rfl hd_M_errs ⟨x_fr hR.1 rfl, x_fr hR.2 rfl⟩) lm0 cX8 rfl hl.1 rfl (Nat.le_of_ble_eq_true rfl) dX8_restore_10 ⟨Nat.zero_le _, Nat.zero_le _⟩ (fun r4 σ3 H locs hV hw => ?_)
    exact hret r4 σ3 H locs ls 13 hV hw dX8_restore_13

theorem n_M_alike_0 : Cond.fieldLink RX8 339 "LacePillowModel" "isKept" "Z" ∈ wsX8_alike := by decide +kernel
theorem n_M_alike_1 : ∀ w ∈ wsX80, w ∈ wsX8_alike := by decide +kernel
theorem n_M_alike_2 : Cond.fieldLink RX8 9 "LacePillowModel" "now" "[I" ∈ wsX8_alike := by decide +kernel
theorem n_M_alike_3 : Cond.fieldLink RX8 16 "LacePillowModel" "aside" "[I" ∈ wsX8_alike := by decide +kernel
theorem n_M_alike_4 : Cond.fieldLink RX8 13 "LacePillowModel" "kept" "[I" ∈ wsX8_alike := by decide +kernel
theorem n_M_alike_5 : Cond.fieldLink RX8 210 "LacePillowModel" "left" "I" ∈ wsX8_alike := by decide +kernel
theorem n_M_alike_6 : Cond.fieldLink RX8 89 "LacePillowModel" "shown" "[I" ∈ wsX8_alike := by decide +kernel
theorem n_M_alike_7 : Cond.fieldLink RX8 68 "LacePillowModel" "layerOf" "[I" ∈ wsX8_alike := by decide +kernel
theorem n_M_alike_8 : Cond.fieldLink RX8 62 "LacePillowModel" "leftPlace" "[I" ∈ wsX8_alike := by decide +kernel
theorem n_M_alike_9 : Cond.fieldLink RX8 65 "LacePillowModel" "leftSign" "[I" ∈ wsX8_alike := by decide +kernel
theorem n_M_alike_10 : Cond.constant RX8 249 (-1000000002) ∈ wsX8_alike := by decide +kernel
set_option maxHeartbeats 4000000 in
set_option maxRecDepth 100000 in
theorem c_M_alike (l : Launch) (G : GT) (ad : Nat → Nat) (hI : Inj LM ad) (σ : St) {Q : Int → St → Prop} (hV : V_M_alike σ Q) : Met l yX8_alike wsX8_alike (rmx 4 94) (Pq vwCl G LM ad σ [.ref (ad 0)]) (Qi vwCl G LM ad Q) 0 0 (Ax LM ad) := by
  unfold V_M_alike at hV
  refine x_meti (own := RX8) (by decide) rfl rfl (Nat.le_of_ble_eq_true rfl) hI ?_
  intro p e s m args below meth c R QQ X hR hret ls hl hw
  replace hl : lv_has ls 5 [(0, .ref (ad 0))] := hl
  obtain ⟨H, hH⟩ : ∃ z, z = s.heap := ⟨_, rfl⟩
  obtain ⟨locs, hlo⟩ : ∃ z : List Loc, z = [] := ⟨_, rfl⟩
  rw [← hH, ← hlo]
  replace hw : Wx vwCl G LM ad s H locs σ := by rw [hH, hlo]; exact hw
  clear hH hlo
  refine x_aload_n X dX8_alike_0 rfl (lv_at hl 0 rfl) ?_
  refine x_geti X hw lm0 cX8 3 (by decide) rfl n_M_alike_1 n_M_alike_0 dX8_alike_1 ?_
  refine x_if_ne X rfl 14 dX8_alike_4 (by decide) (fun hc => ?_) (fun hc => ?_)
  · replace hV := hV.1 hc
    refine x_aload_n X dX8_alike_14 rfl (lv_at hl 0 rfl) ?_
    refine x_getr X hw lm0 cX8 0 (by decide) rfl n_M_alike_1 n_M_alike_2 dX8_alike_15 ?_
    refine x_aload_n X dX8_alike_18 rfl (lv_at hl 0 rfl) ?_
    refine x_getr X hw lm0 cX8 2 (by decide) rfl n_M_alike_1 n_M_alike_3 dX8_alike_19 ?_
    refine x_csv X hw [.ref (ad 1), .ref (ad 3)] [] (c_M_copy l G ad hI 1 3 lm1 lm3 σ hV) (va_cwS 2 X.2.2.2.2 gX8_alike_X8_copy rfl rfl rfl hd_M_copy ⟨x_fr hR.1 rfl, x_fr hR.2 rfl⟩) rfl hl.1 rfl (Nat.le_of_ble_eq_true rfl) dX8_alike_22 ⟨Nat.zero_le _, Nat.zero_le _⟩ (fun σ1 H locs hV hw => ?_)
    refine x_aload_n X dX8_alike_25 rfl (lv_at hl 0 rfl) ?_
    refine x_getr X hw lm0 cX8 1 (by decide) rfl n_M_alike_1 n_M_alike_4 dX8_alike_26 ?_
    refine x_aload_n X dX8_alike_29 rfl (lv_at hl 0 rfl) ?_
    refine x_getr X hw lm0 cX8 0 (by decide) rfl n_M_alike_1 n_M_alike_2 dX8_alike_30 ?_
    refine x_csv X hw [.ref (ad 2), .ref (ad 1)] [] (c_M_copy l G ad hI 2 1 lm2 lm1 σ1 hV) (va_cwS 2 X.2.2.2.2 gX8_alike_X8_copy rfl rfl rfl hd_M_copy ⟨x_fr hR.1 rfl, x_fr hR.2 rfl⟩) rfl hl.1 rfl (Nat.le_of_ble_eq_true rfl) dX8_alike_33 ⟨Nat.zero_le _, Nat.zero_le _⟩ (fun σ2 H locs hV hw => ?_)
    refine x_aload_n X dX8_alike_36 rfl (lv_at hl 0 rfl) ?_
    refine x_cvv X hw [] [] (c_M_lists l G ad hI σ2 hV) (cwV 0 X.2.2.2.2 gX8_alike_X8_lists rfl rfl rfl hd_M_lists ⟨x_fr hR.1 rfl, x_fr hR.2 rfl⟩) lm0 cX8 rfl hl.1 rfl (Nat.le_of_ble_eq_true rfl) dX8_alike_37 ⟨Nat.zero_le _, Nat.zero_le _⟩ (fun σ3 H locs hV hw => ?_)
    refine x_aload_n X dX8_alike_40 rfl (lv_at hl 0 rfl) ?_
    refine x_cvv X hw [] [] (c_M_theWork l G ad hI σ3 hV) (cwV 0 X.2.2.2.2 gX8_alike_X8_theWork rfl rfl rfl hd_M_theWork ⟨x_fr hR.1 rfl, x_fr hR.2 rfl⟩) lm0 cX8 rfl hl.1 rfl (Nat.le_of_ble_eq_true rfl) dX8_alike_41 ⟨Nat.zero_le _, Nat.zero_le _⟩ (fun σ4 H locs hV hw => ?_)
    refine x_aload_n X dX8_alike_44 rfl (lv_at hl 0 rfl) ?_
    refine x_cvi X hw [] [] (c_M_layers l G ad hI σ4 hV) (cwV 0 X.2.2.2.2 gX8_alike_X8_layers rfl rfl rfl hd_M_layers ⟨x_fr hR.1 rfl, x_fr hR.2 rfl⟩) lm0 cX8 rfl hl.1 rfl (Nat.le_of_ble_eq_true rfl) dX8_alike_45 ⟨Nat.zero_le _, Nat.zero_le _⟩ (fun r6 σ5 H locs hV hw => ?_)
    refine x_istore_n X [(1, iV r6), (0, .ref (ad 0))] dX8_alike_48 rfl hl (by decide) rfl (fun ls hl => ?_)
    refine x_aload_n X dX8_alike_49 rfl (lv_at hl 1 rfl) ?_
    refine x_geti X hw lm0 cX8 21 (by decide) rfl n_M_alike_1 n_M_alike_5 dX8_alike_50 ?_
    refine x_bi (fun x2_7 ex2_7 => ?_)
    replace hV := hV x2_7 ex2_7
    clear ex2_7
    refine x_istore_n X [(2, iV x2_7), (1, iV r6), (0, .ref (ad 0))] dX8_alike_53 rfl hl (by decide) rfl (fun ls hl => ?_)
    refine x_iconst X dX8_alike_54 ?_
    refine x_istore_n X [(3, iV 0), (2, iV x2_7), (1, iV r6), (0, .ref (ad 0))] dX8_alike_55 rfl hl (by decide) rfl (fun ls hl => ?_)
    refine WL1.use (Gl := fun x3_8 σ9 => ∀ (H : Heap) (locs : List Loc) (ls : Array Slot), Wx vwCl G LM ad s H locs σ9 → lv_has ls 5 [(3, iV x3_8), (2, iV x2_7), (1, iV r6), (0, .ref (ad 0))] → W p l e R s m args below meth c H locs 0 0 QQ (F0 m 56 ls [])) ?_ hV H locs ls hw hl
    clear hV hw hl H locs ls
    intro bk10 x3_8 σ9 hbk10 hV H locs ls hw hl
    refine x_iload_n X dX8_alike_56 rfl (lv_at hl 0 rfl) ?_
    refine x_aload_n X dX8_alike_57 rfl (lv_at hl 3 rfl) ?_
    refine x_getr X hw lm0 cX8 32 (by decide) rfl n_M_alike_1 n_M_alike_6 dX8_alike_58 ?_
    refine x_alen X hw lm27 rfl dX8_alike_61 ?_
    refine x_icmp_ge X rfl k32_12800 78 dX8_alike_62 (by decide) (fun hc => ?_) (fun hc => ?_)
    · replace hV := hV.1 hc
      refine x_iconst X dX8_alike_78 ?_
      refine x_istore_n X [(3, iV 0), (2, iV x2_7), (1, iV r6), (0, .ref (ad 0))] dX8_alike_79 rfl hl (by decide) rfl (fun ls hl => ?_)
      refine WL1.use (Gl := fun x3_11 σ12 => ∀ (H : Heap) (locs : List Loc) (ls : Array Slot), Wx vwCl G LM ad s H locs σ12 → lv_has ls 5 [(3, iV x3_11), (2, iV x2_7), (1, iV r6), (0, .ref (ad 0))] → W p l e R s m args below meth c H locs 0 0 QQ (F0 m 80 ls [])) ?_ hV H locs ls hw hl
      clear hV hw hl H locs ls
      intro bk13 x3_11 σ12 hbk13 hV H locs ls hw hl
      refine x_iload_n X dX8_alike_80 rfl (lv_at hl 0 rfl) ?_
      refine x_aload_n X dX8_alike_81 rfl (lv_at hl 3 rfl) ?_
      refine x_geti X hw lm0 cX8 21 (by decide) rfl n_M_alike_1 n_M_alike_5 dX8_alike_82 ?_
      refine x_icmp_ge X rfl rfl 121 dX8_alike_85 (by decide) (fun hc => ?_) (fun hc => ?_)
      · replace hV := hV.1 hc
        refine x_aload_n X dX8_alike_121 rfl (lv_at hl 3 rfl) ?_
        refine x_getr X hw lm0 cX8 2 (by decide) rfl n_M_alike_1 n_M_alike_3 dX8_alike_122 ?_
        refine x_aload_n X dX8_alike_125 rfl (lv_at hl 3 rfl) ?_
        refine x_getr X hw lm0 cX8 0 (by decide) rfl n_M_alike_1 n_M_alike_2 dX8_alike_126 ?_
        refine x_csv X hw [.ref (ad 3), .ref (ad 1)] [] (c_M_copy l G ad hI 3 1 lm3 lm1 σ12 hV) (va_cwS 2 X.2.2.2.2 gX8_alike_X8_copy rfl rfl rfl hd_M_copy ⟨x_fr hR.1 rfl, x_fr hR.2 rfl⟩) rfl hl.1 rfl (Nat.le_of_ble_eq_true rfl) dX8_alike_129 ⟨Nat.zero_le _, Nat.zero_le _⟩ (fun σ14 H locs hV hw => ?_)
        refine x_aload_n X dX8_alike_132 rfl (lv_at hl 3 rfl) ?_
        refine x_cvv X hw [] [] (c_M_lists l G ad hI σ14 hV) (cwV 0 X.2.2.2.2 gX8_alike_X8_lists rfl rfl rfl hd_M_lists ⟨x_fr hR.1 rfl, x_fr hR.2 rfl⟩) lm0 cX8 rfl hl.1 rfl (Nat.le_of_ble_eq_true rfl) dX8_alike_133 ⟨Nat.zero_le _, Nat.zero_le _⟩ (fun σ15 H locs hV hw => ?_)
        refine x_aload_n X dX8_alike_136 rfl (lv_at hl 3 rfl) ?_
        refine x_cvv X hw [] [] (c_M_theWork l G ad hI σ15 hV) (cwV 0 X.2.2.2.2 gX8_alike_X8_theWork rfl rfl rfl hd_M_theWork ⟨x_fr hR.1 rfl, x_fr hR.2 rfl⟩) lm0 cX8 rfl hl.1 rfl (Nat.le_of_ble_eq_true rfl) dX8_alike_137 ⟨Nat.zero_le _, Nat.zero_le _⟩ (fun σ16 H locs hV hw => ?_)
        refine x_aload_n X dX8_alike_140 rfl (lv_at hl 3 rfl) ?_
        refine x_cvi X hw [] [] (c_M_layers l G ad hI σ16 hV) (cwV 0 X.2.2.2.2 gX8_alike_X8_layers rfl rfl rfl hd_M_layers ⟨x_fr hR.1 rfl, x_fr hR.2 rfl⟩) lm0 cX8 rfl hl.1 rfl (Nat.le_of_ble_eq_true rfl) dX8_alike_141 ⟨Nat.zero_le _, Nat.zero_le _⟩ (fun r18 σ17 H locs hV hw => ?_)
        refine x_iload_n X dX8_alike_144 rfl (lv_at hl 2 rfl) ?_
        have hJ161 : ∀ (y0_19 : Int) (σ20 : St) (H : Heap) (locs : List Loc) (ls : Array Slot), J_M_alike_161 Q y0_19 σ20 → Wx vwCl G LM ad s H locs σ20 → lv_has ls 5 [(0, .ref (ad 0))] → W p l e R s m args below meth c H locs 0 0 QQ (F0 m 161 ls [iV y0_19]) := by
          intro y0_19 σ20 H locs ls hV hw hl
          unfold J_M_alike_161 at hV
          refine x_istore_n X [(3, iV y0_19), (0, .ref (ad 0))] dX8_alike_161 rfl hl (by decide) rfl (fun ls hl => ?_)
          refine x_iconst X dX8_alike_162 ?_
          refine x_istore X [(4, iV 0), (3, iV y0_19), (0, .ref (ad 0))] dX8_alike_163 hl (by decide) rfl (fun ls hl => ?_)
          refine WL2.use (Gl := fun x4_21 x3_22 σ23 => ∀ (H : Heap) (locs : List Loc) (ls : Array Slot), Wx vwCl G LM ad s H locs σ23 → lv_has ls 5 [(4, iV x4_21), (3, iV x3_22), (0, .ref (ad 0))] → W p l e R s m args below meth c H locs 0 0 QQ (F0 m 165 ls [])) ?_ hV H locs ls hw hl
          clear hV hw hl H locs ls
          intro bk24 x4_21 x3_22 σ23 hbk24 hV H locs ls hw hl
          refine x_iload X dX8_alike_165 (lv_at hl 0 rfl) ?_
          refine x_aload_n X dX8_alike_167 rfl (lv_at hl 2 rfl) ?_
          refine x_geti X hw lm0 cX8 21 (by decide) rfl n_M_alike_1 n_M_alike_5 dX8_alike_168 ?_
          refine x_icmp_ge X rfl rfl 223 dX8_alike_171 (by decide) (fun hc => ?_) (fun hc => ?_)
          · replace hV := hV.1 hc
            refine x_iload_n X dX8_alike_223 rfl (lv_at hl 1 rfl) ?_
            refine x_if_eq X rfl 231 dX8_alike_224 (by decide) (fun hc => ?_) (fun hc => ?_)
            · replace hV := hV.1 hc
              refine x_iconst X dX8_alike_231 ?_
              exact hret 0 σ23 H locs ls 232 hV hw dX8_alike_232
            · replace hV := hV.2 hc
              refine x_iconst X dX8_alike_227 ?_
              refine x_goto X 232 dX8_alike_228 (by decide) ?_
              exact hret 1 σ23 H locs ls 232 hV hw dX8_alike_232
          · replace hV := hV.2 hc
            refine x_iload_n X dX8_alike_174 rfl (lv_at hl 1 rfl) ?_
            refine x_if_eq X rfl 223 dX8_alike_175 (by decide) (fun hc => ?_) (fun hc => ?_)
            · replace hV := hV.1 hc
              refine x_iload_n X dX8_alike_223 rfl (lv_at hl 1 rfl) ?_
              refine x_if_eq X rfl 231 dX8_alike_224 (by decide) (fun hc => ?_) (fun hc => ?_)
              · replace hV := hV.1 hc
                refine x_iconst X dX8_alike_231 ?_
                exact hret 0 σ23 H locs ls 232 hV hw dX8_alike_232
              · replace hV := hV.2 hc
                refine x_iconst X dX8_alike_227 ?_
                refine x_goto X 232 dX8_alike_228 (by decide) ?_
                exact hret 1 σ23 H locs ls 232 hV hw dX8_alike_232
            · replace hV := hV.2 hc
              refine x_aload_n X dX8_alike_178 rfl (lv_at hl 2 rfl) ?_
              refine x_getr X hw lm0 cX8 32 (by decide) rfl n_M_alike_1 n_M_alike_6 dX8_alike_179 ?_
              refine x_bipush X dX8_alike_182 (by decide) ?_
              refine x_aload_n X dX8_alike_184 rfl (lv_at hl 2 rfl) ?_
              refine x_getr X hw lm0 cX8 24 (by decide) rfl n_M_alike_1 n_M_alike_7 dX8_alike_185 ?_
              refine x_iload X dX8_alike_188 (lv_at hl 0 rfl) ?_
              obtain ⟨hi, hV⟩ := hV
              refine x_iald X hw lm20 rfl rfl hi dX8_alike_190 ?_
              refine x_imul X dX8_alike_191 ?_
              refine x_aload_n X dX8_alike_192 rfl (lv_at hl 2 rfl) ?_
              refine x_getr X hw lm0 cX8 22 (by decide) rfl n_M_alike_1 n_M_alike_8 dX8_alike_193 ?_
              refine x_iload X dX8_alike_196 (lv_at hl 0 rfl) ?_
              obtain ⟨hi, hV⟩ := hV
              refine x_iald X hw lm18 rfl rfl hi dX8_alike_198 ?_
              refine x_iadd X dX8_alike_199 ?_
              obtain ⟨hi, hV⟩ := hV
              refine x_iald X hw lm27 rfl rfl hi dX8_alike_200 ?_
              refine x_aload_n X dX8_alike_201 rfl (lv_at hl 2 rfl) ?_
              refine x_getr X hw lm0 cX8 23 (by decide) rfl n_M_alike_1 n_M_alike_9 dX8_alike_202 ?_
              refine x_iload X dX8_alike_205 (lv_at hl 0 rfl) ?_
              obtain ⟨hi, hV⟩ := hV
              refine x_iald X hw lm19 rfl rfl hi dX8_alike_207 ?_
              refine x_icmp_ne X rfl rfl 215 dX8_alike_208 (by decide) (fun hc => ?_) (fun hc => ?_)
              · replace hV := hV.1 hc
                refine x_iconst X dX8_alike_215 ?_
                refine x_istore_n X [(3, iV 0), (4, iV x4_21), (0, .ref (ad 0))] dX8_alike_216 rfl hl (by decide) rfl (fun ls hl => ?_)
                refine x_iinc X (k := 1) (x4_21 + 1) [(4, iV (x4_21 + 1)), (3, iV 0), (0, .ref (ad 0))] dX8_alike_217 hl rfl rfl (by decide) rfl (fun ls hl => ?_)
                refine x_goto X 165 dX8_alike_220 (by decide) ?_
                exact hbk24 (x4_21 + 1) 0 σ23 hV H locs ls hw hl
              · replace hV := hV.2 hc
                refine x_iconst X dX8_alike_211 ?_
                refine x_goto X 216 dX8_alike_212 (by decide) ?_
                refine x_istore_n X [(3, iV 1), (4, iV x4_21), (0, .ref (ad 0))] dX8_alike_216 rfl hl (by decide) rfl (fun ls hl => ?_)
                refine x_iinc X (k := 1) (x4_21 + 1) [(4, iV (x4_21 + 1)), (3, iV 1), (0, .ref (ad 0))] dX8_alike_217 hl rfl rfl (by decide) rfl (fun ls hl => ?_)
                refine x_goto X 165 dX8_alike_220 (by decide) ?_
                exact hbk24 (x4_21 + 1) 1 σ23 hV H locs ls hw hl
        have hJ160 : ∀ (σ25 : St) (H : Heap) (locs : List Loc) (ls : Array Slot), J_M_alike_160 Q σ25 → Wx vwCl G LM ad s H locs σ25 → lv_has ls 5 [(0, .ref (ad 0))] → W p l e R s m args below meth c H locs 0 0 QQ (F0 m 160 ls []) := by
          intro σ25 H locs ls hV hw hl
          unfold J_M_alike_160 at hV
          refine x_iconst X dX8_alike_160 ?_
          exact hJ161 0 σ25 H locs ls hV hw hl
        refine x_icmp_ne X rfl rfl 160 dX8_alike_145 (by decide) (fun hc => ?_) (fun hc => ?_)
        · replace hV := hV.1 hc
          exact hJ160 σ17 H locs ls hV hw (lv_sub hl [3] rfl)
        · replace hV := hV.2 hc
          refine x_aload_n X dX8_alike_148 rfl (lv_at hl 3 rfl) ?_
          refine x_geti X hw lm0 cX8 21 (by decide) rfl n_M_alike_1 n_M_alike_5 dX8_alike_149 ?_
          refine x_iload_n X dX8_alike_152 rfl (lv_at hl 1 rfl) ?_
          refine x_icmp_ne X rfl rfl 160 dX8_alike_153 (by decide) (fun hc => ?_) (fun hc => ?_)
          · replace hV := hV.1 hc
            exact hJ160 σ17 H locs ls hV hw (lv_sub hl [3] rfl)
          · replace hV := hV.2 hc
            refine x_iconst X dX8_alike_156 ?_
            refine x_goto X 161 dX8_alike_157 (by decide) ?_
            exact hJ161 1 σ17 H locs ls hV hw (lv_sub hl [3] rfl)
      · replace hV := hV.2 hc
        refine x_aload_n X dX8_alike_88 rfl (lv_at hl 3 rfl) ?_
        refine x_getr X hw lm0 cX8 32 (by decide) rfl n_M_alike_1 n_M_alike_6 dX8_alike_89 ?_
        refine x_bipush X dX8_alike_92 (by decide) ?_
        refine x_aload_n X dX8_alike_94 rfl (lv_at hl 3 rfl) ?_
        refine x_getr X hw lm0 cX8 24 (by decide) rfl n_M_alike_1 n_M_alike_7 dX8_alike_95 ?_
        refine x_iload_n X dX8_alike_98 rfl (lv_at hl 0 rfl) ?_
        obtain ⟨hi, hV⟩ := hV
        refine x_iald X hw lm20 rfl rfl hi dX8_alike_99 ?_
        refine x_imul X dX8_alike_100 ?_
        refine x_aload_n X dX8_alike_101 rfl (lv_at hl 3 rfl) ?_
        refine x_getr X hw lm0 cX8 22 (by decide) rfl n_M_alike_1 n_M_alike_8 dX8_alike_102 ?_
        refine x_iload_n X dX8_alike_105 rfl (lv_at hl 0 rfl) ?_
        obtain ⟨hi, hV⟩ := hV
        refine x_iald X hw lm18 rfl rfl hi dX8_alike_106 ?_
        refine x_iadd X dX8_alike_107 ?_
        refine x_aload_n X dX8_alike_108 rfl (lv_at hl 3 rfl) ?_
        refine x_getr X hw lm0 cX8 23 (by decide) rfl n_M_alike_1 n_M_alike_9 dX8_alike_109 ?_
        refine x_iload_n X dX8_alike_112 rfl (lv_at hl 0 rfl) ?_
        obtain ⟨hi, hV⟩ := hV
        refine x_iald X hw lm19 rfl rfl hi dX8_alike_113 ?_
        obtain ⟨hi, hV⟩ := hV
        refine x_iast X hw lm27 rfl rfl hi dX8_alike_114 (fun H locs σ26 hs hw => ?_)
        replace hV := hV σ26 hs
        refine x_iinc X (k := 0) (x3_11 + 1) [(3, iV (x3_11 + 1)), (2, iV x2_7), (1, iV r6), (0, .ref (ad 0))] dX8_alike_115 hl rfl rfl (by decide) rfl (fun ls hl => ?_)
        refine x_goto X 80 dX8_alike_118 (by decide) ?_
        exact hbk13 (x3_11 + 1) σ26 hV H locs ls hw hl
    · replace hV := hV.2 hc
      refine x_aload_n X dX8_alike_65 rfl (lv_at hl 3 rfl) ?_
      refine x_getr X hw lm0 cX8 32 (by decide) rfl n_M_alike_1 n_M_alike_6 dX8_alike_66 ?_
      refine x_iload_n X dX8_alike_69 rfl (lv_at hl 0 rfl) ?_
      refine x_iconst X dX8_alike_70 ?_
      obtain ⟨hi, hV⟩ := hV
      refine x_iast X hw lm27 rfl rfl hi dX8_alike_71 (fun H locs σ27 hs hw => ?_)
      replace hV := hV σ27 hs
      refine x_iinc X (k := 0) (x3_8 + 1) [(3, iV (x3_8 + 1)), (2, iV x2_7), (1, iV r6), (0, .ref (ad 0))] dX8_alike_72 hl rfl rfl (by decide) rfl (fun ls hl => ?_)
      refine x_goto X 56 dX8_alike_75 (by decide) ?_
      exact hbk10 (x3_8 + 1) σ27 hV H locs ls hw hl
  · replace hV := hV.2 hc
    refine x_aload_n X dX8_alike_7 rfl (lv_at hl 0 rfl) ?_
    refine x_ldc X (-1000000002) n_M_alike_10 (by decide) dX8_alike_8 ?_
    refine x_cvi X hw [iV (-1000000002)] [] (c_M_errs l G ad hI σ (-1000000002) hV) (cwV 1 X.2.2.2.2 gX8_alike_X8_errs rfl rfl rfl hd_M_errs ⟨x_fr hR.1 rfl, x_fr hR.2 rfl⟩) lm0 cX8 rfl hl.1 rfl (Nat.le_of_ble_eq_true rfl) dX8_alike_10 ⟨Nat.zero_le _, Nat.zero_le _⟩ (fun r29 σ28 H locs hV hw => ?_)
    exact hret r29 σ28 H locs ls 13 hV hw dX8_alike_13

theorem n_M_all_0 : Cond.fieldLink RX8 9 "LacePillowModel" "now" "[I" ∈ wsX8_all := by decide +kernel
theorem n_M_all_1 : ∀ w ∈ wsX80, w ∈ wsX8_all := by decide +kernel
theorem n_M_all_2 : Cond.fieldLink RX8 44 "LacePillowModel" "used" "[I" ∈ wsX8_all := by decide +kernel
set_option maxHeartbeats 4000000 in
set_option maxRecDepth 100000 in
theorem c_M_all (l : Launch) (G : GT) (ad : Nat → Nat) (hI : Inj LM ad) (σ : St) (a1 : Int) {Q : Int → St → Prop} (hV : V_M_all σ a1 Q) : Met l yX8_all wsX8_all (rmx 4 94) (Pq vwCl G LM ad σ [.ref (ad 0), iV a1]) (Qi vwCl G LM ad Q) 0 0 (Ax LM ad) := by
  unfold V_M_all at hV
  refine x_meti (own := RX8) (by decide) rfl rfl (Nat.le_of_ble_eq_true rfl) hI ?_
  intro p e s m args below meth c R QQ X hR hret ls hl hw
  replace hl : lv_has ls 4 [(0, .ref (ad 0)), (1, iV a1)] := hl
  obtain ⟨H, hH⟩ : ∃ z, z = s.heap := ⟨_, rfl⟩
  obtain ⟨locs, hlo⟩ : ∃ z : List Loc, z = [] := ⟨_, rfl⟩
  rw [← hH, ← hlo]
  replace hw : Wx vwCl G LM ad s H locs σ := by rw [hH, hlo]; exact hw
  clear hH hlo
  refine x_aload_n X dX8_all_0 rfl (lv_at hl 0 rfl) ?_
  refine x_cvv X hw [] [] (c_M_theWork l G ad hI σ hV) (cwV 0 X.2.2.2.2 gX8_all_X8_theWork rfl rfl rfl hd_M_theWork ⟨x_fr hR.1 rfl, x_fr hR.2 rfl⟩) lm0 cX8 rfl hl.1 rfl (Nat.le_of_ble_eq_true rfl) dX8_all_1 ⟨Nat.zero_le _, Nat.zero_le _⟩ (fun σ1 H locs hV hw => ?_)
  refine x_iconst X dX8_all_4 ?_
  refine x_istore_n X [(2, iV 0), (0, .ref (ad 0)), (1, iV a1)] dX8_all_5 rfl hl (by decide) rfl (fun ls hl => ?_)
  refine x_iconst X dX8_all_6 ?_
  refine x_istore_n X [(3, iV 0), (2, iV 0), (0, .ref (ad 0)), (1, iV a1)] dX8_all_7 rfl hl (by decide) rfl (fun ls hl => ?_)
  refine WL2.use (Gl := fun x3_2 x2_3 σ4 => ∀ (H : Heap) (locs : List Loc) (ls : Array Slot), Wx vwCl G LM ad s H locs σ4 → lv_has ls 4 [(3, iV x3_2), (2, iV x2_3), (0, .ref (ad 0)), (1, iV a1)] → W p l e R s m args below meth c H locs 0 0 QQ (F0 m 8 ls [])) ?_ hV H locs ls hw hl
  clear hV hw hl H locs ls
  intro bk5 x3_2 x2_3 σ4 hbk5 hV H locs ls hw hl
  refine x_iload_n X dX8_all_8 rfl (lv_at hl 0 rfl) ?_
  refine x_aload_n X dX8_all_9 rfl (lv_at hl 2 rfl) ?_
  refine x_cvi X hw [] [iV x3_2] (c_M_threads l G ad hI σ4 hV) (cwV 0 X.2.2.2.2 gX8_all_X8_threads rfl rfl rfl hd_M_threads ⟨x_fr hR.1 rfl, x_fr hR.2 rfl⟩) lm0 cX8 rfl hl.1 rfl (Nat.le_of_ble_eq_true rfl) dX8_all_10 ⟨Nat.zero_le _, Nat.zero_le _⟩ (fun r7 σ6 H locs hV hw => ?_)
  refine x_icmp_ge X rfl rfl 50 dX8_all_13 (by decide) (fun hc => ?_) (fun hc => ?_)
  · replace hV := hV.1 hc
    refine x_iload_n X dX8_all_50 rfl (lv_at hl 1 rfl) ?_
    exact hret x2_3 σ6 H locs ls 51 hV hw dX8_all_51
  · replace hV := hV.2 hc
    refine x_iload_n X dX8_all_16 rfl (lv_at hl 1 rfl) ?_
    refine x_aload_n X dX8_all_17 rfl (lv_at hl 2 rfl) ?_
    refine x_getr X hw lm0 cX8 0 (by decide) rfl n_M_all_1 n_M_all_0 dX8_all_18 ?_
    refine x_sipush X dX8_all_21 (by decide) ?_
    refine x_iload_n X dX8_all_24 rfl (lv_at hl 0 rfl) ?_
    refine x_iadd X dX8_all_25 ?_
    obtain ⟨hi, hV⟩ := hV
    refine x_iald X hw lm1 rfl rfl hi dX8_all_26 ?_
    refine x_iload_n X dX8_all_27 rfl (lv_at hl 3 rfl) ?_
    refine x_if_eq X rfl 40 dX8_all_28 (by decide) (fun hc => ?_) (fun hc => ?_)
    · replace hV := hV.1 hc
      refine x_iconst X dX8_all_40 ?_
      refine x_isub X dX8_all_41 ?_
      refine x_iadd X dX8_all_42 ?_
      refine x_bi (fun x2_8 ex2_8 => ?_)
      replace hV := hV x2_8 ex2_8
      clear ex2_8
      refine x_istore_n X [(2, iV x2_8), (3, iV x3_2), (0, .ref (ad 0)), (1, iV a1)] dX8_all_43 rfl hl (by decide) rfl (fun ls hl => ?_)
      refine x_iinc X (k := 1) (x3_2 + 1) [(3, iV (x3_2 + 1)), (2, iV x2_8), (0, .ref (ad 0)), (1, iV a1)] dX8_all_44 hl rfl rfl (by decide) rfl (fun ls hl => ?_)
      refine x_goto X 8 dX8_all_47 (by decide) ?_
      exact hbk5 (x3_2 + 1) x2_8 σ6 hV H locs ls hw hl
    · replace hV := hV.2 hc
      refine x_aload_n X dX8_all_31 rfl (lv_at hl 2 rfl) ?_
      refine x_getr X hw lm0 cX8 14 (by decide) rfl n_M_all_1 n_M_all_2 dX8_all_32 ?_
      refine x_iload_n X dX8_all_35 rfl (lv_at hl 0 rfl) ?_
      obtain ⟨hi, hV⟩ := hV
      refine x_iald X hw lm12 rfl rfl hi dX8_all_36 ?_
      refine x_goto X 41 dX8_all_37 (by decide) ?_
      refine x_isub X dX8_all_41 ?_
      refine x_iadd X dX8_all_42 ?_
      refine x_bi (fun x2_9 ex2_9 => ?_)
      replace hV := hV x2_9 ex2_9
      clear ex2_9
      refine x_istore_n X [(2, iV x2_9), (3, iV x3_2), (0, .ref (ad 0)), (1, iV a1)] dX8_all_43 rfl hl (by decide) rfl (fun ls hl => ?_)
      refine x_iinc X (k := 1) (x3_2 + 1) [(3, iV (x3_2 + 1)), (2, iV x2_9), (0, .ref (ad 0)), (1, iV a1)] dX8_all_44 hl rfl rfl (by decide) rfl (fun ls hl => ?_)
      refine x_goto X 8 dX8_all_47 (by decide) ?_
      exact hbk5 (x3_2 + 1) x2_9 σ6 hV H locs ls hw hl
