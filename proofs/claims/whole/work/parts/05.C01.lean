set_option maxHeartbeats 4000000 in
set_option maxRecDepth 100000 in
theorem c_fillJ {L : List LC} (l : Launch) (G : GT) (ad : Nat → Nat) (hI : Inj L ad) (a : Nat) (na : Nat) (ha : L[a]? = some (.inl (true, na))) (σ : St) (a1 : Int) {Q : St → Prop} (hV : V_fillJ a na σ a1 Q) : Met l yJ7_fill_d0a16 wsJ7_fill_d0a16 (rmx 0 0) (Pq vwCl G L ad σ [.ref (ad a), lV a1]) (Qv vwCl G L ad Q) 0 0 (Ax L ad) := by
  unfold V_fillJ at hV
  refine x_metv (own := RJ7) (by decide) rfl rfl (Nat.le_of_ble_eq_true rfl) hI ?_
  intro p e s m args below meth c R QQ X hR hret ls hl hw
  replace hl : lv_has ls 5 [(0, .ref (ad a)), (1, lV a1)] := hl
  obtain ⟨H, hH⟩ : ∃ z, z = s.heap := ⟨_, rfl⟩
  obtain ⟨locs, hlo⟩ : ∃ z : List Loc, z = [] := ⟨_, rfl⟩
  rw [← hH, ← hlo]
  replace hw : Wx vwCl G L ad s H locs σ := by rw [hH, hlo]; exact hw
  clear hH hlo
  refine x_iconst X dJ7_fill_d0a16_0 ?_
  refine x_istore_n X [(3, iV 0), (0, .ref (ad a)), (1, lV a1)] dJ7_fill_d0a16_1 rfl hl (by decide) rfl (fun ls hl => ?_)
  refine x_aload_n X dJ7_fill_d0a16_2 rfl (lv_at hl 1 rfl) ?_
  refine x_alen X hw ha rfl dJ7_fill_d0a16_3 ?_
  refine x_bi (fun x4_1 ex4_1 => ?_)
  replace hV := hV x4_1 ex4_1
  clear ex4_1
  refine x_istore X [(4, iV x4_1), (3, iV 0), (0, .ref (ad a)), (1, lV a1)] dJ7_fill_d0a16_4 hl (by decide) rfl (fun ls hl => ?_)
  refine WL1.use (Gl := fun x3_2 σ3 => ∀ (H : Heap) (locs : List Loc) (ls : Array Slot), Wx vwCl G L ad s H locs σ3 → lv_has ls 5 [(4, iV x4_1), (3, iV x3_2), (0, .ref (ad a)), (1, lV a1)] → W p l e R s m args below meth c H locs 0 0 QQ (F0 m 6 ls [])) ?_ hV H locs ls hw hl
  clear hV hw hl H locs ls
  intro bk4 x3_2 σ3 hbk4 hV H locs ls hw hl
  refine x_iload_n X dJ7_fill_d0a16_6 rfl (lv_at hl 1 rfl) ?_
  refine x_iload X dJ7_fill_d0a16_7 (lv_at hl 0 rfl) ?_
  refine x_icmp_ge X rfl rfl 22 dJ7_fill_d0a16_9 (by decide) (fun hc => ?_) (fun hc => ?_)
  · replace hV := hV.1 hc
    exact hret σ3 H locs ls 22 hV hw dJ7_fill_d0a16_22
  · replace hV := hV.2 hc
    refine x_aload_n X dJ7_fill_d0a16_12 rfl (lv_at hl 2 rfl) ?_
    refine x_iload_n X dJ7_fill_d0a16_13 rfl (lv_at hl 1 rfl) ?_
    refine x_lload_n X dJ7_fill_d0a16_14 rfl (lv_at hl 3 rfl) ?_
    obtain ⟨hi, hV⟩ := hV
    refine x_last X hw ha rfl rfl hi dJ7_fill_d0a16_15 (fun H locs σ5 hs hw => ?_)
    replace hV := hV σ5 hs
    refine x_iinc X (k := 1) (x3_2 + 1) [(3, iV (x3_2 + 1)), (4, iV x4_1), (0, .ref (ad a)), (1, lV a1)] dJ7_fill_d0a16_16 hl rfl rfl (by decide) rfl (fun ls hl => ?_)
    refine x_goto X 6 dJ7_fill_d0a16_19 (by decide) ?_
    exact hbk4 (x3_2 + 1) σ5 hV H locs ls hw (lv_sub hl [1, 0, 2, 3] rfl)

theorem n_Sheet_begin_0 : Cond.fieldLink RX3 9 "LacePillow$Sheet" "sort" "I" ∈ wsX3_begin := by decide +kernel
theorem n_Sheet_begin_1 : ∀ w ∈ wsX30, w ∈ wsX3_begin := by decide +kernel
theorem n_Sheet_begin_2 : Cond.fieldLink RX3 15 "LacePillow$Sheet" "size" "I" ∈ wsX3_begin := by decide +kernel
theorem n_Sheet_begin_3 : Cond.fieldLink RX3 18 "LacePillow$Sheet" "numbers" "[J" ∈ wsX3_begin := by decide +kernel
set_option maxHeartbeats 4000000 in
set_option maxRecDepth 100000 in
theorem c_Sheet_begin (l : Launch) (G : GT) (ad : Nat → Nat) (hI : Inj LX ad) (sh : Nat) (hsh : isSheet sh) (σ : St) (a1 : Int) (a2 : Int) {Q : St → Prop} (hV : V_Sheet_begin sh σ a1 a2 Q) : Met l yX3_begin wsX3_begin (rmx 1 24) (Pq vwCl G LX ad σ [.ref (ad sh), iV a1, iV a2]) (Qv vwCl G LX ad Q) 0 0 (Ax LX ad) := by
  unfold V_Sheet_begin at hV
  refine x_metv (own := RX3) (by decide) rfl rfl (Nat.le_of_ble_eq_true rfl) hI ?_
  intro p e s m args below meth c R QQ X hR hret ls hl hw
  replace hl : lv_has ls 3 [(0, .ref (ad sh)), (1, iV a1), (2, iV a2)] := hl
  obtain ⟨H, hH⟩ : ∃ z, z = s.heap := ⟨_, rfl⟩
  obtain ⟨locs, hlo⟩ : ∃ z : List Loc, z = [] := ⟨_, rfl⟩
  rw [← hH, ← hlo]
  replace hw : Wx vwCl G LX ad s H locs σ := by rw [hH, hlo]; exact hw
  clear hH hlo
  refine x_aload_n X dX3_begin_0 rfl (lv_at hl 0 rfl) ?_
  refine x_iload_n X dX3_begin_1 rfl (lv_at hl 1 rfl) ?_
  refine x_puti X hw (lfSheet hsh) cX3 0 (by decide) rfl n_Sheet_begin_1 n_Sheet_begin_0 tyX3 tyX3_ok nmX3 rfl rfl rfl dX3_begin_2 (fun H locs σ1 hs hw => ?_)
  replace hV := hV σ1 hs
  refine x_aload_n X dX3_begin_5 rfl (lv_at hl 0 rfl) ?_
  refine x_iload_n X dX3_begin_6 rfl (lv_at hl 2 rfl) ?_
  refine x_puti X hw (lfSheet hsh) cX3 1 (by decide) rfl n_Sheet_begin_1 n_Sheet_begin_2 tyX3 tyX3_ok nmX3 rfl rfl rfl dX3_begin_7 (fun H locs σ2 hs hw => ?_)
  replace hV := hV σ2 hs
  refine x_aload_n X dX3_begin_10 rfl (lv_at hl 0 rfl) ?_
  refine x_getr X hw (lfSheet hsh) cX3 2 (by decide) rfl n_Sheet_begin_1 n_Sheet_begin_3 dX3_begin_11 ?_
  refine x_lconst X 0 dX3_begin_14 rfl ?_
  refine x_csv X hw [.ref (ad (sh + 1)), lV 0] [] (c_fillJ l G ad hI (sh + 1) 60 (lfSheet1 hsh) σ2 0 hV) (va_cwS 2 X.2.2.2.2 gX3_begin_J7_fill_d0a16 rfl rfl rfl hd_fillJ ⟨x_fr hR.1 rfl, x_fr hR.2 rfl⟩) rfl hl.1 rfl (Nat.le_of_ble_eq_true rfl) dX3_begin_15 ⟨Nat.zero_le _, Nat.zero_le _⟩ (fun σ3 H locs hV hw => ?_)
  exact hret σ3 H locs ls 18 hV hw dX3_begin_18

theorem n_Sheet_has_0 : Cond.fieldLink RX3 9 "LacePillow$Sheet" "sort" "I" ∈ wsX3_has := by decide +kernel
theorem n_Sheet_has_1 : ∀ w ∈ wsX30, w ∈ wsX3_has := by decide +kernel
theorem n_Sheet_has_2 : Cond.fieldLink RX3 15 "LacePillow$Sheet" "size" "I" ∈ wsX3_has := by decide +kernel
set_option maxHeartbeats 4000000 in
set_option maxRecDepth 100000 in
theorem c_Sheet_has (l : Launch) (G : GT) (ad : Nat → Nat) (hI : Inj LX ad) (sh : Nat) (hsh : isSheet sh) (σ : St) (a1 : Int) {Q : Int → St → Prop} (hV : V_Sheet_has sh σ a1 Q) : Met l yX3_has wsX3_has (rmx 0 0) (Pq vwCl G LX ad σ [.ref (ad sh), iV a1]) (Qz vwCl G LX ad Q) 0 0 (Ax LX ad) := by
  unfold V_Sheet_has at hV
  refine x_metz (own := RX3) (by decide) rfl rfl (Nat.le_of_ble_eq_true rfl) hI ?_
  intro p e s m args below meth c R QQ X hR hret ls hl hw
  replace hl : lv_has ls 2 [(0, .ref (ad sh)), (1, iV a1)] := hl
  obtain ⟨H, hH⟩ : ∃ z, z = s.heap := ⟨_, rfl⟩
  obtain ⟨locs, hlo⟩ : ∃ z : List Loc, z = [] := ⟨_, rfl⟩
  rw [← hH, ← hlo]
  replace hw : Wx vwCl G LX ad s H locs σ := by rw [hH, hlo]; exact hw
  clear hH hlo
  refine x_aload_n X dX3_has_0 rfl (lv_at hl 0 rfl) ?_
  refine x_geti X hw (lfSheet hsh) cX3 0 (by decide) rfl n_Sheet_has_1 n_Sheet_has_0 dX3_has_1 ?_
  refine x_iconst X dX3_has_4 ?_
  refine x_icmp_eq X rfl k32_m1 24 dX3_has_5 (by decide) (fun hc => ?_) (fun hc => ?_)
  · replace hV := hV.1 hc
    refine x_iconst X dX3_has_24 ?_
    exact hret 0 σ H locs ls 25 (by decide) hV hw dX3_has_25
  · replace hV := hV.2 hc
    refine x_iload_n X dX3_has_8 rfl (lv_at hl 1 rfl) ?_
    refine x_if_lt X rfl 24 dX3_has_9 (by decide) (fun hc => ?_) (fun hc => ?_)
    · replace hV := hV.1 hc
      refine x_iconst X dX3_has_24 ?_
      exact hret 0 σ H locs ls 25 (by decide) hV hw dX3_has_25
    · replace hV := hV.2 hc
      refine x_iload_n X dX3_has_12 rfl (lv_at hl 1 rfl) ?_
      refine x_aload_n X dX3_has_13 rfl (lv_at hl 0 rfl) ?_
      refine x_geti X hw (lfSheet hsh) cX3 1 (by decide) rfl n_Sheet_has_1 n_Sheet_has_2 dX3_has_14 ?_
      refine x_icmp_ge X rfl rfl 24 dX3_has_17 (by decide) (fun hc => ?_) (fun hc => ?_)
      · replace hV := hV.1 hc
        refine x_iconst X dX3_has_24 ?_
        exact hret 0 σ H locs ls 25 (by decide) hV hw dX3_has_25
      · replace hV := hV.2 hc
        refine x_iconst X dX3_has_20 ?_
        refine x_goto X 25 dX3_has_21 (by decide) ?_
        exact hret 1 σ H locs ls 25 (by decide) hV hw dX3_has_25

theorem n_Sheet_cut_0 : Cond.fieldLink RX3 9 "LacePillow$Sheet" "sort" "I" ∈ wsX3_cut := by decide +kernel
theorem n_Sheet_cut_1 : ∀ w ∈ wsX30, w ∈ wsX3_cut := by decide +kernel
set_option maxHeartbeats 4000000 in
set_option maxRecDepth 100000 in
theorem c_Sheet_cut (l : Launch) (G : GT) (ad : Nat → Nat) (hI : Inj LX ad) (sh : Nat) (hsh : isSheet sh) (σ : St) (a1 : Int) {Q : Int → St → Prop} (hV : V_Sheet_cut sh σ a1 Q) : Met l yX3_cut wsX3_cut (rmx 0 0) (Pq vwCl G LX ad σ [.ref (ad sh), lV a1]) (Ql vwCl G LX ad Q) 0 0 (Ax LX ad) := by
  unfold V_Sheet_cut at hV
  refine x_metl (own := RX3) (by decide) rfl rfl (Nat.le_of_ble_eq_true rfl) hI ?_
  intro p e s m args below meth c R QQ X hR hret ls hl hw
  replace hl : lv_has ls 3 [(0, .ref (ad sh)), (1, lV a1)] := hl
  obtain ⟨H, hH⟩ : ∃ z, z = s.heap := ⟨_, rfl⟩
  obtain ⟨locs, hlo⟩ : ∃ z : List Loc, z = [] := ⟨_, rfl⟩
  rw [← hH, ← hlo]
  replace hw : Wx vwCl G LX ad s H locs σ := by rw [hH, hlo]; exact hw
  clear hH hlo
  refine x_aload_n X dX3_cut_0 rfl (lv_at hl 0 rfl) ?_
  refine x_geti X hw (lfSheet hsh) cX3 0 (by decide) rfl n_Sheet_cut_1 n_Sheet_cut_0 dX3_cut_1 ?_
  by_cases hc0 : i32 (σ sh 0) = 0
  · replace hV := hV.1 hc0
    refine x_tabIn X 0 32 dX3_cut_4 (hc0) (by decide) (by decide) rfl (by decide) ?_
    refine x_lload_n X dX3_cut_32 rfl (lv_at hl 1 rfl) ?_
    refine x_lconst X 0 dX3_cut_33 rfl ?_
    refine x_lcmp_eq X rfl k64_0 42 dX3_cut_34 dX3_cut_35 (by decide) (fun hc => ?_) (fun hc => ?_)
    · replace hV := hV.1 hc
      refine x_lconst X 0 dX3_cut_42 rfl ?_
      exact hret 0 σ H locs ls 43 hV hw dX3_cut_43
    · replace hV := hV.2 hc
      refine x_lconst X 1 dX3_cut_38 rfl ?_
      refine x_goto X 43 dX3_cut_39 (by decide) ?_
      exact hret 1 σ H locs ls 43 hV hw dX3_cut_43
  by_cases hc1 : i32 (σ sh 0) = 1
  · replace hV := hV.2.1 hc1
    refine x_tabIn X 1 44 dX3_cut_4 (hc1) (by decide) (by decide) rfl (by decide) ?_
    refine x_lload_n X dX3_cut_44 rfl (lv_at hl 1 rfl) ?_
    refine x_l2i X dX3_cut_45 ?_
    refine x_i2s X dX3_cut_46 ?_
    refine x_i2l X dX3_cut_47 ?_
    exact hret (i32 (i16 a1)) σ H locs ls 48 hV hw dX3_cut_48
  by_cases hc2 : i32 (σ sh 0) = 2
  · replace hV := hV.2.2.1 hc2
    refine x_tabIn X 2 49 dX3_cut_4 (hc2) (by decide) (by decide) rfl (by decide) ?_
    refine x_lload_n X dX3_cut_49 rfl (lv_at hl 1 rfl) ?_
    refine x_l2i X dX3_cut_50 ?_
    refine x_i2l X dX3_cut_51 ?_
    exact hret (i32 a1) σ H locs ls 52 hV hw dX3_cut_52
  have hc : i32 (σ sh 0) < 0 ∨ 2 < i32 (σ sh 0) := by omega
  replace hV := hV.2.2.2 hc
  refine x_tabOut X 53 dX3_cut_4 hc (by decide) ?_
  refine x_lload_n X dX3_cut_53 rfl (lv_at hl 1 rfl) ?_
  exact hret a1 σ H locs ls 54 hV hw dX3_cut_54

theorem n_Tape_prickingFault_0 : Cond.fieldLink RX4 15 "LacePillow$Tape" "size" "I" ∈ wsX4_prickingFault := by decide +kernel
theorem n_Tape_prickingFault_1 : ∀ w ∈ wsX40, w ∈ wsX4_prickingFault := by decide +kernel
theorem n_Tape_prickingFault_2 : Cond.fieldLink RX4 9 "LacePillow$Tape" "bytes" "[I" ∈ wsX4_prickingFault := by decide +kernel
set_option maxHeartbeats 4000000 in
set_option maxRecDepth 100000 in
theorem c_Tape_prickingFault (l : Launch) (G : GT) (ad : Nat → Nat) (hI : Inj LX ad) (σ : St) (a1 : Int) {Q : Int → St → Prop} (hV : V_Tape_prickingFault σ a1 Q) : Met l yX4_prickingFault wsX4_prickingFault (rmx 0 0) (Pq vwCl G LX ad σ [.ref (ad 53), iV a1]) (Qi vwCl G LX ad Q) 0 0 (Ax LX ad) := by
  unfold V_Tape_prickingFault at hV
  refine x_meti (own := RX4) (by decide) rfl rfl (Nat.le_of_ble_eq_true rfl) hI ?_
  intro p e s m args below meth c R QQ X hR hret ls hl hw
  replace hl : lv_has ls 8 [(0, .ref (ad 53)), (1, iV a1)] := hl
  obtain ⟨H, hH⟩ : ∃ z, z = s.heap := ⟨_, rfl⟩
  obtain ⟨locs, hlo⟩ : ∃ z : List Loc, z = [] := ⟨_, rfl⟩
  rw [← hH, ← hlo]
  replace hw : Wx vwCl G LX ad s H locs σ := by rw [hH, hlo]; exact hw
  clear hH hlo
  refine x_iconst X dX4_prickingFault_0 ?_
  refine x_istore_n X [(2, iV 0), (0, .ref (ad 53)), (1, iV a1)] dX4_prickingFault_1 rfl hl (by decide) rfl (fun ls hl => ?_)
  refine x_iconst X dX4_prickingFault_2 ?_
  refine x_istore_n X [(3, iV 0), (2, iV 0), (0, .ref (ad 53)), (1, iV a1)] dX4_prickingFault_3 rfl hl (by decide) rfl (fun ls hl => ?_)
  refine x_iconst X dX4_prickingFault_4 ?_
  refine x_istore X [(4, iV 0), (3, iV 0), (2, iV 0), (0, .ref (ad 53)), (1, iV a1)] dX4_prickingFault_5 hl (by decide) rfl (fun ls hl => ?_)
  refine x_iconst X dX4_prickingFault_7 ?_
  refine x_istore X [(5, iV 0), (4, iV 0), (3, iV 0), (2, iV 0), (0, .ref (ad 53)), (1, iV a1)] dX4_prickingFault_8 hl (by decide) rfl (fun ls hl => ?_)
  refine WL4.use (Gl := fun x5_1 x4_2 x3_3 x2_4 σ5 => ∀ (H : Heap) (locs : List Loc) (ls : Array Slot), Wx vwCl G LX ad s H locs σ5 → lv_has ls 8 [(5, iV x5_1), (4, iV x4_2), (3, iV x3_3), (2, iV x2_4), (0, .ref (ad 53)), (1, iV a1)] → W p l e R s m args below meth c H locs 0 0 QQ (F0 m 10 ls [])) ?_ hV H locs ls hw hl
  clear hV hw hl H locs ls
  intro bk6 x5_1 x4_2 x3_3 x2_4 σ5 hbk6 hV H locs ls hw hl
  refine x_iload X dX4_prickingFault_10 (lv_at hl 0 rfl) ?_
  refine x_aload_n X dX4_prickingFault_12 rfl (lv_at hl 4 rfl) ?_
  refine x_geti X hw lx53 cX4 1 (by decide) rfl n_Tape_prickingFault_1 n_Tape_prickingFault_0 dX4_prickingFault_13 ?_
  refine x_icmp_ge X rfl rfl 119 dX4_prickingFault_16 (by decide) (fun hc => ?_) (fun hc => ?_)
  · replace hV := hV.1 hc
    refine x_iload_n X dX4_prickingFault_119 rfl (lv_at hl 2 rfl) ?_
    refine x_iload_n X dX4_prickingFault_120 rfl (lv_at hl 5 rfl) ?_
    refine x_icmp_ne X rfl rfl 128 dX4_prickingFault_121 (by decide) (fun hc => ?_) (fun hc => ?_)
    · replace hV := hV.1 hc
      refine x_aload_n X dX4_prickingFault_128 rfl (lv_at hl 4 rfl) ?_
      refine x_geti X hw lx53 cX4 1 (by decide) rfl n_Tape_prickingFault_1 n_Tape_prickingFault_0 dX4_prickingFault_129 ?_
      exact hret (σ5 53 1) σ5 H locs ls 132 hV hw dX4_prickingFault_132
    · replace hV := hV.2 hc
      refine x_iconst X dX4_prickingFault_124 ?_
      refine x_goto X 132 dX4_prickingFault_125 (by decide) ?_
      exact hret (-1) σ5 H locs ls 132 hV hw dX4_prickingFault_132
  · replace hV := hV.2 hc
    refine x_aload_n X dX4_prickingFault_19 rfl (lv_at hl 4 rfl) ?_
    refine x_getr X hw lx53 cX4 0 (by decide) rfl n_Tape_prickingFault_1 n_Tape_prickingFault_2 dX4_prickingFault_20 ?_
    refine x_iload X dX4_prickingFault_23 (lv_at hl 0 rfl) ?_
    obtain ⟨hi, hV⟩ := hV
    refine x_iald X hw lx54 rfl rfl hi dX4_prickingFault_25 ?_
    refine x_bi (fun x6_7 ex6_7 => ?_)
    replace hV := hV x6_7 ex6_7
    clear ex6_7
    refine x_istore X [(6, iV x6_7), (5, iV x5_1), (4, iV x4_2), (3, iV x3_3), (2, iV x2_4), (0, .ref (ad 53)), (1, iV a1)] dX4_prickingFault_26 hl (by decide) rfl (fun ls hl => ?_)
    refine x_iload_n X dX4_prickingFault_28 rfl (lv_at hl 3 rfl) ?_
    refine x_iload_n X dX4_prickingFault_29 rfl (lv_at hl 6 rfl) ?_
    refine x_icmp_ne X rfl rfl 60 dX4_prickingFault_30 (by decide) (fun hc => ?_) (fun hc => ?_)
    · replace hV := hV.1 hc
      refine x_iload X dX4_prickingFault_60 (lv_at hl 0 rfl) ?_
      refine x_bipush X dX4_prickingFault_62 (by decide) ?_
      have hJ79 : ∀ (y0_8 : Int) (σ9 : St) (H : Heap) (locs : List Loc) (ls : Array Slot), J_Tape_prickingFault_79 Q x5_1 x4_2 x3_3 x2_4 bk6 x6_7 y0_8 σ9 → Wx vwCl G LX ad s H locs σ9 → lv_has ls 8 [(6, iV x6_7), (5, iV x5_1), (4, iV x4_2), (3, iV x3_3), (2, iV x2_4), (0, .ref (ad 53)), (1, iV a1)] → W p l e R s m args below meth c H locs 0 0 QQ (F0 m 79 ls [iV y0_8]) := by
        intro y0_8 σ9 H locs ls hV hw hl
        unfold J_Tape_prickingFault_79 at hV
        refine x_istore X [(7, iV y0_8), (6, iV x6_7), (5, iV x5_1), (4, iV x4_2), (3, iV x3_3), (2, iV x2_4), (0, .ref (ad 53)), (1, iV a1)] dX4_prickingFault_79 hl (by decide) rfl (fun ls hl => ?_)
        refine x_iload X dX4_prickingFault_81 (lv_at hl 1 rfl) ?_
        refine x_bipush X dX4_prickingFault_83 (by decide) ?_
        have hJ93 : ∀ (σ10 : St) (H : Heap) (locs : List Loc) (ls : Array Slot), J_Tape_prickingFault_93 Q x5_1 x4_2 x3_3 x2_4 bk6 y0_8 σ10 → Wx vwCl G LX ad s H locs σ10 → lv_has ls 8 [(7, iV y0_8), (5, iV x5_1), (4, iV x4_2), (3, iV x3_3), (2, iV x2_4), (0, .ref (ad 53)), (1, iV a1)] → W p l e R s m args below meth c H locs 0 0 QQ (F0 m 93 ls []) := by
          intro σ10 H locs ls hV hw hl
          unfold J_Tape_prickingFault_93 at hV
          refine x_iload X dX4_prickingFault_93 (lv_at hl 0 rfl) ?_
          refine x_if_eq X rfl 106 dX4_prickingFault_95 (by decide) (fun hc => ?_) (fun hc => ?_)
          · replace hV := hV.1 hc
            refine x_iinc X (k := 3) (x3_3 + 1) [(3, iV (x3_3 + 1)), (7, iV y0_8), (5, iV x5_1), (4, iV x4_2), (2, iV x2_4), (0, .ref (ad 53)), (1, iV a1)] dX4_prickingFault_106 hl rfl rfl (by decide) rfl (fun ls hl => ?_)
            refine x_iload X dX4_prickingFault_109 (lv_at hl 1 rfl) ?_
            refine x_istore X [(4, iV y0_8), (3, iV (x3_3 + 1)), (7, iV y0_8), (5, iV x5_1), (2, iV x2_4), (0, .ref (ad 53)), (1, iV a1)] dX4_prickingFault_111 hl (by decide) rfl (fun ls hl => ?_)
            refine x_iinc X (k := 3) (x5_1 + 1) [(5, iV (x5_1 + 1)), (4, iV y0_8), (3, iV (x3_3 + 1)), (7, iV y0_8), (2, iV x2_4), (0, .ref (ad 53)), (1, iV a1)] dX4_prickingFault_113 hl rfl rfl (by decide) rfl (fun ls hl => ?_)
            refine x_goto X 10 dX4_prickingFault_116 (by decide) ?_
            exact hbk6 (x5_1 + 1) y0_8 (x3_3 + 1) x2_4 σ10 hV H locs ls hw (lv_sub hl [0, 1, 2, 4, 5, 6] rfl)
          · replace hV := hV.2 hc
            refine x_iload X dX4_prickingFault_98 (lv_at hl 2 rfl) ?_
            refine x_if_eq X rfl 106 dX4_prickingFault_100 (by decide) (fun hc => ?_) (fun hc => ?_)
            · replace hV := hV.1 hc
              refine x_iinc X (k := 3) (x3_3 + 1) [(3, iV (x3_3 + 1)), (7, iV y0_8), (5, iV x5_1), (4, iV x4_2), (2, iV x2_4), (0, .ref (ad 53)), (1, iV a1)] dX4_prickingFault_106 hl rfl rfl (by decide) rfl (fun ls hl => ?_)
              refine x_iload X dX4_prickingFault_109 (lv_at hl 1 rfl) ?_
              refine x_istore X [(4, iV y0_8), (3, iV (x3_3 + 1)), (7, iV y0_8), (5, iV x5_1), (2, iV x2_4), (0, .ref (ad 53)), (1, iV a1)] dX4_prickingFault_111 hl (by decide) rfl (fun ls hl => ?_)
              refine x_iinc X (k := 3) (x5_1 + 1) [(5, iV (x5_1 + 1)), (4, iV y0_8), (3, iV (x3_3 + 1)), (7, iV y0_8), (2, iV x2_4), (0, .ref (ad 53)), (1, iV a1)] dX4_prickingFault_113 hl rfl rfl (by decide) rfl (fun ls hl => ?_)
              refine x_goto X 10 dX4_prickingFault_116 (by decide) ?_
              exact hbk6 (x5_1 + 1) y0_8 (x3_3 + 1) x2_4 σ10 hV H locs ls hw (lv_sub hl [0, 1, 2, 4, 5, 6] rfl)
            · replace hV := hV.2 hc
              refine x_iload X dX4_prickingFault_103 (lv_at hl 1 rfl) ?_
              exact hret x5_1 σ10 H locs ls 105 hV hw dX4_prickingFault_105
        refine x_icmp_eq X rfl k32_46 93 dX4_prickingFault_85 (by decide) (fun hc => ?_) (fun hc => ?_)
        · replace hV := hV.1 hc
          exact hJ93 σ9 H locs ls hV hw (lv_sub hl [0, 2, 3, 4, 5, 6, 7] rfl)
        · replace hV := hV.2 hc
          refine x_iload X dX4_prickingFault_88 (lv_at hl 0 rfl) ?_
          refine x_if_eq X rfl 103 dX4_prickingFault_90 (by decide) (fun hc => ?_) (fun hc => ?_)
          · replace hV := hV.1 hc
            refine x_iload X dX4_prickingFault_103 (lv_at hl 2 rfl) ?_
            exact hret x5_1 σ9 H locs ls 105 hV hw dX4_prickingFault_105
          · replace hV := hV.2 hc
            exact hJ93 σ9 H locs ls hV hw (lv_sub hl [0, 2, 3, 4, 5, 6, 7] rfl)
      have hJ78 : ∀ (σ11 : St) (H : Heap) (locs : List Loc) (ls : Array Slot), J_Tape_prickingFault_78 Q x5_1 x4_2 x3_3 x2_4 bk6 x6_7 σ11 → Wx vwCl G LX ad s H locs σ11 → lv_has ls 8 [(6, iV x6_7), (5, iV x5_1), (4, iV x4_2), (3, iV x3_3), (2, iV x2_4), (0, .ref (ad 53)), (1, iV a1)] → W p l e R s m args below meth c H locs 0 0 QQ (F0 m 78 ls []) := by
        intro σ11 H locs ls hV hw hl
        unfold J_Tape_prickingFault_78 at hV
        refine x_iconst X dX4_prickingFault_78 ?_
        exact hJ79 0 σ11 H locs ls hV hw hl
      refine x_icmp_lt X rfl k32_97 78 dX4_prickingFault_64 (by decide) (fun hc => ?_) (fun hc => ?_)
      · replace hV := hV.1 hc
        exact hJ78 σ5 H locs ls hV hw hl
      · replace hV := hV.2 hc
        refine x_iload X dX4_prickingFault_67 (lv_at hl 0 rfl) ?_
        refine x_bipush X dX4_prickingFault_69 (by decide) ?_
        refine x_icmp_gt X rfl k32_102 78 dX4_prickingFault_71 (by decide) (fun hc => ?_) (fun hc => ?_)
        · replace hV := hV.1 hc
          exact hJ78 σ5 H locs ls hV hw hl
        · replace hV := hV.2 hc
          refine x_iconst X dX4_prickingFault_74 ?_
          refine x_goto X 79 dX4_prickingFault_75 (by decide) ?_
          exact hJ79 1 σ5 H locs ls hV hw hl
    · replace hV := hV.2 hc
      refine x_iload X dX4_prickingFault_33 (lv_at hl 0 rfl) ?_
      refine x_bipush X dX4_prickingFault_35 (by decide) ?_
      refine x_icmp_ne X rfl k32_47 46 dX4_prickingFault_37 (by decide) (fun hc => ?_) (fun hc => ?_)
      · replace hV := hV.1 hc
        refine x_iload X dX4_prickingFault_46 (lv_at hl 1 rfl) ?_
        exact hret x5_1 σ5 H locs ls 48 hV hw dX4_prickingFault_48
      · replace hV := hV.2 hc
        refine x_iload_n X dX4_prickingFault_40 rfl (lv_at hl 4 rfl) ?_
        refine x_bipush X dX4_prickingFault_41 (by decide) ?_
        refine x_icmp_ne X rfl k32_11 49 dX4_prickingFault_43 (by decide) (fun hc => ?_) (fun hc => ?_)
        · replace hV := hV.1 hc
          refine x_iinc X (k := 4) (x2_4 + 1) [(2, iV (x2_4 + 1)), (6, iV x6_7), (5, iV x5_1), (4, iV x4_2), (3, iV x3_3), (0, .ref (ad 53)), (1, iV a1)] dX4_prickingFault_49 hl rfl rfl (by decide) rfl (fun ls hl => ?_)
          refine x_iconst X dX4_prickingFault_52 ?_
          refine x_istore_n X [(3, iV 0), (2, iV (x2_4 + 1)), (6, iV x6_7), (5, iV x5_1), (4, iV x4_2), (0, .ref (ad 53)), (1, iV a1)] dX4_prickingFault_53 rfl hl (by decide) rfl (fun ls hl => ?_)
          refine x_iconst X dX4_prickingFault_54 ?_
          refine x_istore X [(4, iV 0), (3, iV 0), (2, iV (x2_4 + 1)), (6, iV x6_7), (5, iV x5_1), (0, .ref (ad 53)), (1, iV a1)] dX4_prickingFault_55 hl (by decide) rfl (fun ls hl => ?_)
          refine x_goto X 113 dX4_prickingFault_57 (by decide) ?_
          refine x_iinc X (k := 4) (x5_1 + 1) [(5, iV (x5_1 + 1)), (4, iV 0), (3, iV 0), (2, iV (x2_4 + 1)), (6, iV x6_7), (0, .ref (ad 53)), (1, iV a1)] dX4_prickingFault_113 hl rfl rfl (by decide) rfl (fun ls hl => ?_)
          refine x_goto X 10 dX4_prickingFault_116 (by decide) ?_
          exact hbk6 (x5_1 + 1) 0 0 (x2_4 + 1) σ5 hV H locs ls hw (lv_sub hl [0, 1, 2, 3, 5, 6] rfl)
        · replace hV := hV.2 hc
          refine x_iload X dX4_prickingFault_46 (lv_at hl 1 rfl) ?_
          exact hret x5_1 σ5 H locs ls 48 hV hw dX4_prickingFault_48

theorem n_Tape_wordFault_0 : Cond.fieldLink RX4 15 "LacePillow$Tape" "size" "I" ∈ wsX4_wordFault := by decide +kernel
theorem n_Tape_wordFault_1 : ∀ w ∈ wsX40, w ∈ wsX4_wordFault := by decide +kernel
theorem n_Tape_wordFault_2 : Cond.fieldLink RX4 9 "LacePillow$Tape" "bytes" "[I" ∈ wsX4_wordFault := by decide +kernel
set_option maxHeartbeats 4000000 in
set_option maxRecDepth 100000 in
theorem c_Tape_wordFault (l : Launch) (G : GT) (ad : Nat → Nat) (hI : Inj LX ad) (σ : St) {Q : Int → St → Prop} (hV : V_Tape_wordFault σ Q) : Met l yX4_wordFault wsX4_wordFault (rmx 0 0) (Pq vwCl G LX ad σ [.ref (ad 53)]) (Qi vwCl G LX ad Q) 0 0 (Ax LX ad) := by
  unfold V_Tape_wordFault at hV
  refine x_meti (own := RX4) (by decide) rfl rfl (Nat.le_of_ble_eq_true rfl) hI ?_
  intro p e s m args below meth c R QQ X hR hret ls hl hw
  replace hl : lv_has ls 3 [(0, .ref (ad 53))] := hl
  obtain ⟨H, hH⟩ : ∃ z, z = s.heap := ⟨_, rfl⟩
  obtain ⟨locs, hlo⟩ : ∃ z : List Loc, z = [] := ⟨_, rfl⟩
  rw [← hH, ← hlo]
  replace hw : Wx vwCl G LX ad s H locs σ := by rw [hH, hlo]; exact hw
  clear hH hlo
  refine x_iconst X dX4_wordFault_0 ?_
  refine x_istore_n X [(1, iV 0), (0, .ref (ad 53))] dX4_wordFault_1 rfl hl (by decide) rfl (fun ls hl => ?_)
  refine WL1.use (Gl := fun x1_1 σ2 => ∀ (H : Heap) (locs : List Loc) (ls : Array Slot), Wx vwCl G LX ad s H locs σ2 → lv_has ls 3 [(1, iV x1_1), (0, .ref (ad 53))] → W p l e R s m args below meth c H locs 0 0 QQ (F0 m 2 ls [])) ?_ hV H locs ls hw hl
  clear hV hw hl H locs ls
  intro bk3 x1_1 σ2 hbk3 hV H locs ls hw hl
  refine x_iload_n X dX4_wordFault_2 rfl (lv_at hl 0 rfl) ?_
  refine x_aload_n X dX4_wordFault_3 rfl (lv_at hl 1 rfl) ?_
  refine x_geti X hw lx53 cX4 1 (by decide) rfl n_Tape_wordFault_1 n_Tape_wordFault_0 dX4_wordFault_4 ?_
  refine x_icmp_ge X rfl rfl 55 dX4_wordFault_7 (by decide) (fun hc => ?_) (fun hc => ?_)
  · replace hV := hV.1 hc
    refine x_aload_n X dX4_wordFault_55 rfl (lv_at hl 1 rfl) ?_
    refine x_geti X hw lx53 cX4 1 (by decide) rfl n_Tape_wordFault_1 n_Tape_wordFault_0 dX4_wordFault_56 ?_
    refine x_if_ne X rfl 66 dX4_wordFault_59 (by decide) (fun hc => ?_) (fun hc => ?_)
    · replace hV := hV.1 hc
      refine x_iconst X dX4_wordFault_66 ?_
      exact hret (-1) σ2 H locs ls 67 hV hw dX4_wordFault_67
    · replace hV := hV.2 hc
      refine x_iconst X dX4_wordFault_62 ?_
      refine x_goto X 67 dX4_wordFault_63 (by decide) ?_
      exact hret 0 σ2 H locs ls 67 hV hw dX4_wordFault_67
  · replace hV := hV.2 hc
    refine x_aload_n X dX4_wordFault_10 rfl (lv_at hl 1 rfl) ?_
    refine x_getr X hw lx53 cX4 0 (by decide) rfl n_Tape_wordFault_1 n_Tape_wordFault_2 dX4_wordFault_11 ?_
    refine x_iload_n X dX4_wordFault_14 rfl (lv_at hl 0 rfl) ?_
    obtain ⟨hi, hV⟩ := hV
    refine x_iald X hw lx54 rfl rfl hi dX4_wordFault_15 ?_
    refine x_bi (fun x2_4 ex2_4 => ?_)
    replace hV := hV x2_4 ex2_4
    clear ex2_4
    refine x_istore_n X [(2, iV x2_4), (1, iV x1_1), (0, .ref (ad 53))] dX4_wordFault_16 rfl hl (by decide) rfl (fun ls hl => ?_)
    refine x_iload_n X dX4_wordFault_17 rfl (lv_at hl 1 rfl) ?_
    refine x_bipush X dX4_wordFault_18 (by decide) ?_
    refine x_icmp_ge X rfl k32_8 47 dX4_wordFault_20 (by decide) (fun hc => ?_) (fun hc => ?_)
    · replace hV := hV.1 hc
      refine x_iload_n X dX4_wordFault_47 rfl (lv_at hl 1 rfl) ?_
      exact hret x1_1 σ2 H locs ls 48 hV hw dX4_wordFault_48
    · replace hV := hV.2 hc
      refine x_iload_n X dX4_wordFault_23 rfl (lv_at hl 0 rfl) ?_
      refine x_bipush X dX4_wordFault_24 (by decide) ?_
      refine x_icmp_eq X rfl k32_99 49 dX4_wordFault_26 (by decide) (fun hc => ?_) (fun hc => ?_)
      · replace hV := hV.1 hc
        refine x_iinc X (k := 1) (x1_1 + 1) [(1, iV (x1_1 + 1)), (2, iV x2_4), (0, .ref (ad 53))] dX4_wordFault_49 hl rfl rfl (by decide) rfl (fun ls hl => ?_)
        refine x_goto X 2 dX4_wordFault_52 (by decide) ?_
        exact hbk3 (x1_1 + 1) σ2 hV H locs ls hw (lv_sub hl [0, 2] rfl)
      · replace hV := hV.2 hc
        refine x_iload_n X dX4_wordFault_29 rfl (lv_at hl 0 rfl) ?_
        refine x_bipush X dX4_wordFault_30 (by decide) ?_
        refine x_icmp_eq X rfl k32_67 49 dX4_wordFault_32 (by decide) (fun hc => ?_) (fun hc => ?_)
        · replace hV := hV.1 hc
          refine x_iinc X (k := 1) (x1_1 + 1) [(1, iV (x1_1 + 1)), (2, iV x2_4), (0, .ref (ad 53))] dX4_wordFault_49 hl rfl rfl (by decide) rfl (fun ls hl => ?_)
          refine x_goto X 2 dX4_wordFault_52 (by decide) ?_
          exact hbk3 (x1_1 + 1) σ2 hV H locs ls hw (lv_sub hl [0, 2] rfl)
        · replace hV := hV.2 hc
          refine x_iload_n X dX4_wordFault_35 rfl (lv_at hl 0 rfl) ?_
          refine x_bipush X dX4_wordFault_36 (by decide) ?_
          refine x_icmp_eq X rfl k32_116 49 dX4_wordFault_38 (by decide) (fun hc => ?_) (fun hc => ?_)
          · replace hV := hV.1 hc
            refine x_iinc X (k := 1) (x1_1 + 1) [(1, iV (x1_1 + 1)), (2, iV x2_4), (0, .ref (ad 53))] dX4_wordFault_49 hl rfl rfl (by decide) rfl (fun ls hl => ?_)
            refine x_goto X 2 dX4_wordFault_52 (by decide) ?_
            exact hbk3 (x1_1 + 1) σ2 hV H locs ls hw (lv_sub hl [0, 2] rfl)
          · replace hV := hV.2 hc
            refine x_iload_n X dX4_wordFault_41 rfl (lv_at hl 0 rfl) ?_
            refine x_bipush X dX4_wordFault_42 (by decide) ?_
            refine x_icmp_eq X rfl k32_84 49 dX4_wordFault_44 (by decide) (fun hc => ?_) (fun hc => ?_)
            · replace hV := hV.1 hc
              refine x_iinc X (k := 1) (x1_1 + 1) [(1, iV (x1_1 + 1)), (2, iV x2_4), (0, .ref (ad 53))] dX4_wordFault_49 hl rfl rfl (by decide) rfl (fun ls hl => ?_)
              refine x_goto X 2 dX4_wordFault_52 (by decide) ?_
              exact hbk3 (x1_1 + 1) σ2 hV H locs ls hw (lv_sub hl [0, 2] rfl)
            · replace hV := hV.2 hc
              refine x_iload_n X dX4_wordFault_47 rfl (lv_at hl 1 rfl) ?_
              exact hret x1_1 σ2 H locs ls 48 hV hw dX4_wordFault_48

theorem n_Tape_prickInto_0 : Cond.fieldLink RX4 19 "LacePillow$Plan" "cells" "[I" ∈ wsX4_prickInto := by decide +kernel
theorem n_Tape_prickInto_1 : ∀ w ∈ wsX20, w ∈ wsX4_prickInto := by decide +kernel
theorem n_Tape_prickInto_2 : Cond.fieldLink RX4 15 "LacePillow$Tape" "size" "I" ∈ wsX4_prickInto := by decide +kernel
theorem n_Tape_prickInto_3 : ∀ w ∈ wsX40, w ∈ wsX4_prickInto := by decide +kernel
theorem n_Tape_prickInto_4 : Cond.fieldLink RX4 9 "LacePillow$Tape" "bytes" "[I" ∈ wsX4_prickInto := by decide +kernel
set_option maxHeartbeats 4000000 in
set_option maxRecDepth 100000 in
theorem c_Tape_prickInto (l : Launch) (G : GT) (ad : Nat → Nat) (hI : Inj LX ad) (σ : St) {Q : St → Prop} (hV : V_Tape_prickInto σ Q) : Met l yX4_prickInto wsX4_prickInto (rmx 1 23) (Pq vwCl G LX ad σ [.ref (ad 53), .ref (ad 1)]) (Qv vwCl G LX ad Q) 0 0 (Ax LX ad) := by
  unfold V_Tape_prickInto at hV
  refine x_metv (own := RX4) (by decide) rfl rfl (Nat.le_of_ble_eq_true rfl) hI ?_
  intro p e s m args below meth c R QQ X hR hret ls hl hw
  replace hl : lv_has ls 5 [(0, .ref (ad 53)), (1, .ref (ad 1))] := hl
  obtain ⟨H, hH⟩ : ∃ z, z = s.heap := ⟨_, rfl⟩
  obtain ⟨locs, hlo⟩ : ∃ z : List Loc, z = [] := ⟨_, rfl⟩
  rw [← hH, ← hlo]
  replace hw : Wx vwCl G LX ad s H locs σ := by rw [hH, hlo]; exact hw
  clear hH hlo
  refine x_aload_n X dX4_prickInto_0 rfl (lv_at hl 1 rfl) ?_
  refine x_getr X hw lx1 cX2 1 (by decide) rfl n_Tape_prickInto_1 n_Tape_prickInto_0 dX4_prickInto_1 ?_
  refine x_iconst X dX4_prickInto_4 ?_
  refine x_csv X hw [.ref (ad 2), iV (-1)] [] (c_fillI l G ad hI 2 84 lx2 σ (-1) hV) (va_cwS 2 X.2.2.2.2 gX4_prickInto_J7_fill_53178 rfl rfl rfl hd_fillI ⟨x_fr hR.1 rfl, x_fr hR.2 rfl⟩) rfl hl.1 rfl (Nat.le_of_ble_eq_true rfl) dX4_prickInto_5 ⟨Nat.zero_le _, Nat.zero_le _⟩ (fun σ1 H locs hV hw => ?_)
  refine x_iconst X dX4_prickInto_8 ?_
  refine x_istore_n X [(2, iV 0), (0, .ref (ad 53)), (1, .ref (ad 1))] dX4_prickInto_9 rfl hl (by decide) rfl (fun ls hl => ?_)
  refine x_iconst X dX4_prickInto_10 ?_
  refine x_istore_n X [(3, iV 0), (2, iV 0), (0, .ref (ad 53)), (1, .ref (ad 1))] dX4_prickInto_11 rfl hl (by decide) rfl (fun ls hl => ?_)
  refine x_iconst X dX4_prickInto_12 ?_
  refine x_istore X [(4, iV 0), (3, iV 0), (2, iV 0), (0, .ref (ad 53)), (1, .ref (ad 1))] dX4_prickInto_13 hl (by decide) rfl (fun ls hl => ?_)
  refine WL3.use (Gl := fun x4_2 x3_3 x2_4 σ5 => ∀ (H : Heap) (locs : List Loc) (ls : Array Slot), Wx vwCl G LX ad s H locs σ5 → lv_has ls 5 [(4, iV x4_2), (3, iV x3_3), (2, iV x2_4), (0, .ref (ad 53)), (1, .ref (ad 1))] → W p l e R s m args below meth c H locs 0 0 QQ (F0 m 15 ls [])) ?_ hV H locs ls hw hl
  clear hV hw hl H locs ls
  intro bk6 x4_2 x3_3 x2_4 σ5 hbk6 hV H locs ls hw hl
  refine x_iload X dX4_prickInto_15 (lv_at hl 0 rfl) ?_
  refine x_aload_n X dX4_prickInto_17 rfl (lv_at hl 3 rfl) ?_
  refine x_geti X hw lx53 cX4 1 (by decide) rfl n_Tape_prickInto_3 n_Tape_prickInto_2 dX4_prickInto_18 ?_
  refine x_icmp_ge X rfl rfl 98 dX4_prickInto_21 (by decide) (fun hc => ?_) (fun hc => ?_)
  · replace hV := hV.1 hc
    exact hret σ5 H locs ls 98 hV hw dX4_prickInto_98
  · replace hV := hV.2 hc
    refine x_aload_n X dX4_prickInto_24 rfl (lv_at hl 3 rfl) ?_
    refine x_getr X hw lx53 cX4 0 (by decide) rfl n_Tape_prickInto_3 n_Tape_prickInto_4 dX4_prickInto_25 ?_
    refine x_iload X dX4_prickInto_28 (lv_at hl 0 rfl) ?_
    obtain ⟨hi, hV⟩ := hV
    refine x_iald X hw lx54 rfl rfl hi dX4_prickInto_30 ?_
    refine x_bipush X dX4_prickInto_31 (by decide) ?_
    refine x_icmp_ne X rfl k32_47 44 dX4_prickInto_33 (by decide) (fun hc => ?_) (fun hc => ?_)
    · replace hV := hV.1 hc
      refine x_aload_n X dX4_prickInto_44 rfl (lv_at hl 3 rfl) ?_
      refine x_getr X hw lx53 cX4 0 (by decide) rfl n_Tape_prickInto_3 n_Tape_prickInto_4 dX4_prickInto_45 ?_
      refine x_iload X dX4_prickInto_48 (lv_at hl 0 rfl) ?_
      obtain ⟨hi, hV⟩ := hV
      refine x_iald X hw lx54 rfl rfl hi dX4_prickInto_50 ?_
      refine x_bipush X dX4_prickInto_51 (by decide) ?_
      refine x_icmp_eq X rfl k32_46 89 dX4_prickInto_53 (by decide) (fun hc => ?_) (fun hc => ?_)
      · replace hV := hV.1 hc
        refine x_iinc X (k := 1) (x3_3 + 1) [(3, iV (x3_3 + 1)), (4, iV x4_2), (2, iV x2_4), (0, .ref (ad 53)), (1, .ref (ad 1))] dX4_prickInto_89 hl rfl rfl (by decide) rfl (fun ls hl => ?_)
        refine x_iinc X (k := 1) (x4_2 + 1) [(4, iV (x4_2 + 1)), (3, iV (x3_3 + 1)), (2, iV x2_4), (0, .ref (ad 53)), (1, .ref (ad 1))] dX4_prickInto_92 hl rfl rfl (by decide) rfl (fun ls hl => ?_)
        refine x_goto X 15 dX4_prickInto_95 (by decide) ?_
        exact hbk6 (x4_2 + 1) (x3_3 + 1) x2_4 σ5 hV H locs ls hw hl
      · replace hV := hV.2 hc
        refine x_iload_n X dX4_prickInto_56 rfl (lv_at hl 2 rfl) ?_
        refine x_bipush X dX4_prickInto_57 (by decide) ?_
        refine x_icmp_ge X rfl k32_12 89 dX4_prickInto_59 (by decide) (fun hc => ?_) (fun hc => ?_)
        · replace hV := hV.1 hc
          refine x_iinc X (k := 1) (x3_3 + 1) [(3, iV (x3_3 + 1)), (4, iV x4_2), (2, iV x2_4), (0, .ref (ad 53)), (1, .ref (ad 1))] dX4_prickInto_89 hl rfl rfl (by decide) rfl (fun ls hl => ?_)
          refine x_iinc X (k := 1) (x4_2 + 1) [(4, iV (x4_2 + 1)), (3, iV (x3_3 + 1)), (2, iV x2_4), (0, .ref (ad 53)), (1, .ref (ad 1))] dX4_prickInto_92 hl rfl rfl (by decide) rfl (fun ls hl => ?_)
          refine x_goto X 15 dX4_prickInto_95 (by decide) ?_
          exact hbk6 (x4_2 + 1) (x3_3 + 1) x2_4 σ5 hV H locs ls hw hl
        · replace hV := hV.2 hc
          refine x_iload_n X dX4_prickInto_62 rfl (lv_at hl 1 rfl) ?_
          refine x_bipush X dX4_prickInto_63 (by decide) ?_
          refine x_icmp_ge X rfl k32_7 89 dX4_prickInto_65 (by decide) (fun hc => ?_) (fun hc => ?_)
          · replace hV := hV.1 hc
            refine x_iinc X (k := 1) (x3_3 + 1) [(3, iV (x3_3 + 1)), (4, iV x4_2), (2, iV x2_4), (0, .ref (ad 53)), (1, .ref (ad 1))] dX4_prickInto_89 hl rfl rfl (by decide) rfl (fun ls hl => ?_)
            refine x_iinc X (k := 1) (x4_2 + 1) [(4, iV (x4_2 + 1)), (3, iV (x3_3 + 1)), (2, iV x2_4), (0, .ref (ad 53)), (1, .ref (ad 1))] dX4_prickInto_92 hl rfl rfl (by decide) rfl (fun ls hl => ?_)
            refine x_goto X 15 dX4_prickInto_95 (by decide) ?_
            exact hbk6 (x4_2 + 1) (x3_3 + 1) x2_4 σ5 hV H locs ls hw hl
          · replace hV := hV.2 hc
            refine x_aload_n X dX4_prickInto_68 rfl (lv_at hl 4 rfl) ?_
            refine x_getr X hw lx1 cX2 1 (by decide) rfl n_Tape_prickInto_1 n_Tape_prickInto_0 dX4_prickInto_69 ?_
            refine x_iload_n X dX4_prickInto_72 rfl (lv_at hl 2 rfl) ?_
            refine x_bipush X dX4_prickInto_73 (by decide) ?_
            refine x_imul X dX4_prickInto_75 ?_
            refine x_iload_n X dX4_prickInto_76 rfl (lv_at hl 1 rfl) ?_
            refine x_iadd X dX4_prickInto_77 ?_
            refine x_aload_n X dX4_prickInto_78 rfl (lv_at hl 3 rfl) ?_
            refine x_getr X hw lx53 cX4 0 (by decide) rfl n_Tape_prickInto_3 n_Tape_prickInto_4 dX4_prickInto_79 ?_
            refine x_iload X dX4_prickInto_82 (lv_at hl 0 rfl) ?_
            obtain ⟨hi, hV⟩ := hV
            refine x_iald X hw lx54 rfl rfl hi dX4_prickInto_84 ?_
            refine x_bipush X dX4_prickInto_85 (by decide) ?_
            refine x_isub X dX4_prickInto_87 ?_
            obtain ⟨hi, hV⟩ := hV
            refine x_iast X hw lx2 rfl rfl hi dX4_prickInto_88 (fun H locs σ7 hs hw => ?_)
            replace hV := hV σ7 hs
            refine x_iinc X (k := 1) (x3_3 + 1) [(3, iV (x3_3 + 1)), (4, iV x4_2), (2, iV x2_4), (0, .ref (ad 53)), (1, .ref (ad 1))] dX4_prickInto_89 hl rfl rfl (by decide) rfl (fun ls hl => ?_)
            refine x_iinc X (k := 1) (x4_2 + 1) [(4, iV (x4_2 + 1)), (3, iV (x3_3 + 1)), (2, iV x2_4), (0, .ref (ad 53)), (1, .ref (ad 1))] dX4_prickInto_92 hl rfl rfl (by decide) rfl (fun ls hl => ?_)
            refine x_goto X 15 dX4_prickInto_95 (by decide) ?_
            exact hbk6 (x4_2 + 1) (x3_3 + 1) x2_4 σ7 hV H locs ls hw hl
    · replace hV := hV.2 hc
      refine x_iinc X (k := 2) (x2_4 + 1) [(2, iV (x2_4 + 1)), (4, iV x4_2), (3, iV x3_3), (0, .ref (ad 53)), (1, .ref (ad 1))] dX4_prickInto_36 hl rfl rfl (by decide) rfl (fun ls hl => ?_)
      refine x_iconst X dX4_prickInto_39 ?_
      refine x_istore_n X [(3, iV 0), (2, iV (x2_4 + 1)), (4, iV x4_2), (0, .ref (ad 53)), (1, .ref (ad 1))] dX4_prickInto_40 rfl hl (by decide) rfl (fun ls hl => ?_)
      refine x_goto X 92 dX4_prickInto_41 (by decide) ?_
      refine x_iinc X (k := 2) (x4_2 + 1) [(4, iV (x4_2 + 1)), (3, iV 0), (2, iV (x2_4 + 1)), (0, .ref (ad 53)), (1, .ref (ad 1))] dX4_prickInto_92 hl rfl rfl (by decide) rfl (fun ls hl => ?_)
      refine x_goto X 15 dX4_prickInto_95 (by decide) ?_
      exact hbk6 (x4_2 + 1) 0 (x2_4 + 1) σ5 hV H locs ls hw hl

theorem n_Tape_spellInto_0 : Cond.fieldLink RX4 15 "LacePillow$Tape" "size" "I" ∈ wsX4_spellInto := by decide +kernel
theorem n_Tape_spellInto_1 : ∀ w ∈ wsX40, w ∈ wsX4_spellInto := by decide +kernel
theorem n_Tape_spellInto_2 : Cond.fieldLink RX4 33 "LacePillow$Plan" "lengths" "[I" ∈ wsX4_spellInto := by decide +kernel
theorem n_Tape_spellInto_3 : ∀ w ∈ wsX20, w ∈ wsX4_spellInto := by decide +kernel
theorem n_Tape_spellInto_4 : Cond.methodLink RX4 36 Lib.Math.min.name ∈ wsX4_spellInto := by decide +kernel
theorem n_Tape_spellInto_5 : Cond.static Lib.Math.min.name ∈ wsX4_spellInto := by decide +kernel
theorem n_Tape_spellInto_6 : Cond.initialized "java/lang/Math" ∈ wsX4_spellInto := by decide +kernel
theorem n_Tape_spellInto_7 : Cond.code Lib.Math.min.name Lib.Math.min.code 2 (some .int) ∈ wsX4_spellInto := by decide +kernel
theorem n_Tape_spellInto_8 : Cond.fieldLink RX4 30 "LacePillow$Plan" "letters" "[I" ∈ wsX4_spellInto := by decide +kernel
theorem n_Tape_spellInto_9 : Cond.fieldLink RX4 9 "LacePillow$Tape" "bytes" "[I" ∈ wsX4_spellInto := by decide +kernel
set_option maxHeartbeats 4000000 in
set_option maxRecDepth 100000 in
theorem c_Tape_spellInto (l : Launch) (G : GT) (ad : Nat → Nat) (hI : Inj LX ad) (σ : St) (a1 : Int) {Q : St → Prop} (hV : V_Tape_spellInto σ a1 Q) : Met l yX4_spellInto wsX4_spellInto (rmx 1 30) (Pq vwCl G LX ad σ [.ref (ad 53), .ref (ad 1), iV a1]) (Qv vwCl G LX ad Q) 0 0 (Ax LX ad) := by
  unfold V_Tape_spellInto at hV
  refine x_metv (own := RX4) (by decide) rfl rfl (Nat.le_of_ble_eq_true rfl) hI ?_
  intro p e s m args below meth c R QQ X hR hret ls hl hw
  replace hl : lv_has ls 4 [(0, .ref (ad 53)), (1, .ref (ad 1)), (2, iV a1)] := hl
  obtain ⟨H, hH⟩ : ∃ z, z = s.heap := ⟨_, rfl⟩
  obtain ⟨locs, hlo⟩ : ∃ z : List Loc, z = [] := ⟨_, rfl⟩
  rw [← hH, ← hlo]
  replace hw : Wx vwCl G LX ad s H locs σ := by rw [hH, hlo]; exact hw
  clear hH hlo
  refine x_iconst X dX4_spellInto_0 ?_
  refine x_istore_n X [(3, iV 0), (0, .ref (ad 53)), (1, .ref (ad 1)), (2, iV a1)] dX4_spellInto_1 rfl hl (by decide) rfl (fun ls hl => ?_)
  refine WL1.use (Gl := fun x3_1 σ2 => ∀ (H : Heap) (locs : List Loc) (ls : Array Slot), Wx vwCl G LX ad s H locs σ2 → lv_has ls 4 [(3, iV x3_1), (0, .ref (ad 53)), (1, .ref (ad 1)), (2, iV a1)] → W p l e R s m args below meth c H locs 0 0 QQ (F0 m 2 ls [])) ?_ hV H locs ls hw hl
  clear hV hw hl H locs ls
  intro bk3 x3_1 σ2 hbk3 hV H locs ls hw hl
  refine x_iload_n X dX4_spellInto_2 rfl (lv_at hl 0 rfl) ?_
  refine x_aload_n X dX4_spellInto_3 rfl (lv_at hl 1 rfl) ?_
  refine x_geti X hw lx53 cX4 1 (by decide) rfl n_Tape_spellInto_1 n_Tape_spellInto_0 dX4_spellInto_4 ?_
  have hJ39 : ∀ (σ4 : St) (H : Heap) (locs : List Loc) (ls : Array Slot), J_Tape_spellInto_39 a1 Q σ4 → Wx vwCl G LX ad s H locs σ4 → lv_has ls 4 [(0, .ref (ad 53)), (1, .ref (ad 1)), (2, iV a1)] → W p l e R s m args below meth c H locs 0 0 QQ (F0 m 39 ls []) := by
    intro σ4 H locs ls hV hw hl
    unfold J_Tape_spellInto_39 at hV
    refine x_aload_n X dX4_spellInto_39 rfl (lv_at hl 1 rfl) ?_
    refine x_getr X hw lx1 cX2 3 (by decide) rfl n_Tape_spellInto_3 n_Tape_spellInto_2 dX4_spellInto_40 ?_
    refine x_iload_n X dX4_spellInto_43 rfl (lv_at hl 2 rfl) ?_
    refine x_aload_n X dX4_spellInto_44 rfl (lv_at hl 0 rfl) ?_
    refine x_geti X hw lx53 cX4 1 (by decide) rfl n_Tape_spellInto_1 n_Tape_spellInto_0 dX4_spellInto_45 ?_
    refine x_bipush X dX4_spellInto_48 (by decide) ?_
    refine x_mmin X hl.1 n_Tape_spellInto_4 n_Tape_spellInto_5 n_Tape_spellInto_6 n_Tape_spellInto_7 (x_fr hR.1 rfl) (x_fr hR.2 rfl) ⟨Nat.zero_le _, Nat.zero_le _⟩ dX4_spellInto_50 ?_
    obtain ⟨hi, hV⟩ := hV
    refine x_iast X hw lx4 rfl rfl hi dX4_spellInto_53 (fun H locs σ5 hs hw => ?_)
    replace hV := hV σ5 hs
    exact hret σ5 H locs ls 54 hV hw dX4_spellInto_54
  refine x_icmp_ge X rfl rfl 39 dX4_spellInto_7 (by decide) (fun hc => ?_) (fun hc => ?_)
  · replace hV := hV.1 hc
    exact hJ39 σ2 H locs ls hV hw (lv_sub hl [1, 2, 3] rfl)
  · replace hV := hV.2 hc
    refine x_iload_n X dX4_spellInto_10 rfl (lv_at hl 0 rfl) ?_
    refine x_bipush X dX4_spellInto_11 (by decide) ?_
    refine x_icmp_ge X rfl k32_8 39 dX4_spellInto_13 (by decide) (fun hc => ?_) (fun hc => ?_)
    · replace hV := hV.1 hc
      exact hJ39 σ2 H locs ls hV hw (lv_sub hl [1, 2, 3] rfl)
    · replace hV := hV.2 hc
      refine x_aload_n X dX4_spellInto_16 rfl (lv_at hl 2 rfl) ?_
      refine x_getr X hw lx1 cX2 2 (by decide) rfl n_Tape_spellInto_3 n_Tape_spellInto_8 dX4_spellInto_17 ?_
      refine x_iload_n X dX4_spellInto_20 rfl (lv_at hl 3 rfl) ?_
      refine x_bipush X dX4_spellInto_21 (by decide) ?_
      refine x_imul X dX4_spellInto_23 ?_
      refine x_iload_n X dX4_spellInto_24 rfl (lv_at hl 0 rfl) ?_
      refine x_iadd X dX4_spellInto_25 ?_
      refine x_aload_n X dX4_spellInto_26 rfl (lv_at hl 1 rfl) ?_
      refine x_getr X hw lx53 cX4 0 (by decide) rfl n_Tape_spellInto_1 n_Tape_spellInto_9 dX4_spellInto_27 ?_
      refine x_iload_n X dX4_spellInto_30 rfl (lv_at hl 0 rfl) ?_
      obtain ⟨hi, hV⟩ := hV
      refine x_iald X hw lx54 rfl rfl hi dX4_spellInto_31 ?_
      obtain ⟨hi, hV⟩ := hV
      refine x_iast X hw lx3 rfl rfl hi dX4_spellInto_32 (fun H locs σ6 hs hw => ?_)
      replace hV := hV σ6 hs
      refine x_iinc X (k := 0) (x3_1 + 1) [(3, iV (x3_1 + 1)), (0, .ref (ad 53)), (1, .ref (ad 1)), (2, iV a1)] dX4_spellInto_33 hl rfl rfl (by decide) rfl (fun ls hl => ?_)
      refine x_goto X 2 dX4_spellInto_36 (by decide) ?_
      exact hbk3 (x3_1 + 1) σ6 hV H locs ls hw hl

theorem n_bitCount_0 : Cond.constantLong RJ13 314 (6148914691236517205) ∈ wsJ13_bitCount_95d88 := by decide +kernel
theorem n_bitCount_1 : Cond.constantLong RJ13 316 (3689348814741910323) ∈ wsJ13_bitCount_95d88 := by decide +kernel
theorem n_bitCount_2 : Cond.constantLong RJ13 318 (1085102592571150095) ∈ wsJ13_bitCount_95d88 := by decide +kernel
set_option maxHeartbeats 4000000 in
set_option maxRecDepth 100000 in
theorem c_bitCount (l : Launch) (G : GT) (ad : Nat → Nat) (hI : Inj LX ad) (σ : St) (a1 : Int) {Q : Int → St → Prop} (hV : V_bitCount σ a1 Q) : Met l yJ13_bitCount_95d88 wsJ13_bitCount_95d88 (rmx 0 0) (Pq vwCl G LX ad σ [lV a1]) (Qi vwCl G LX ad Q) 0 0 (Ax LX ad) := by
  unfold V_bitCount at hV
  refine x_meti (own := RJ13) (by decide) rfl rfl (Nat.le_of_ble_eq_true rfl) hI ?_
  intro p e s m args below meth c R QQ X hR hret ls hl hw
  replace hl : lv_has ls 2 [(0, lV a1)] := hl
  obtain ⟨H, hH⟩ : ∃ z, z = s.heap := ⟨_, rfl⟩
  obtain ⟨locs, hlo⟩ : ∃ z : List Loc, z = [] := ⟨_, rfl⟩
  rw [← hH, ← hlo]
  replace hw : Wx vwCl G LX ad s H locs σ := by rw [hH, hlo]; exact hw
  clear hH hlo
  refine x_lload_n X dJ13_bitCount_95d88_0 rfl (lv_at hl 0 rfl) ?_
  refine x_lload_n X dJ13_bitCount_95d88_1 rfl (lv_at hl 0 rfl) ?_
  refine x_iconst X dJ13_bitCount_95d88_2 ?_
  refine x_lushr X dJ13_bitCount_95d88_3 ?_
  refine x_ldc2 X 6148914691236517205 n_bitCount_0 (by decide) dJ13_bitCount_95d88_4 ?_
  refine x_land X dJ13_bitCount_95d88_7 ?_
  refine x_lsub X dJ13_bitCount_95d88_8 ?_
  refine x_bl (fun x0_1 ex0_1 => ?_)
  replace hV := hV x0_1 ex0_1
  clear ex0_1
  refine x_lstore_n X [(0, lV x0_1)] dJ13_bitCount_95d88_9 rfl hl (by decide) rfl (fun ls hl => ?_)
  refine x_lload_n X dJ13_bitCount_95d88_10 rfl (lv_at hl 0 rfl) ?_
  refine x_ldc2 X 3689348814741910323 n_bitCount_1 (by decide) dJ13_bitCount_95d88_11 ?_
  refine x_land X dJ13_bitCount_95d88_14 ?_
  refine x_lload_n X dJ13_bitCount_95d88_15 rfl (lv_at hl 0 rfl) ?_
  refine x_iconst X dJ13_bitCount_95d88_16 ?_
  refine x_lushr X dJ13_bitCount_95d88_17 ?_
  refine x_ldc2 X 3689348814741910323 n_bitCount_1 (by decide) dJ13_bitCount_95d88_18 ?_
  refine x_land X dJ13_bitCount_95d88_21 ?_
  refine x_ladd X dJ13_bitCount_95d88_22 ?_
  refine x_bl (fun x0_2 ex0_2 => ?_)
  replace hV := hV x0_2 ex0_2
  clear ex0_2
  refine x_lstore_n X [(0, lV x0_2)] dJ13_bitCount_95d88_23 rfl hl (by decide) rfl (fun ls hl => ?_)
  refine x_lload_n X dJ13_bitCount_95d88_24 rfl (lv_at hl 0 rfl) ?_
  refine x_lload_n X dJ13_bitCount_95d88_25 rfl (lv_at hl 0 rfl) ?_
  refine x_iconst X dJ13_bitCount_95d88_26 ?_
  refine x_lushr X dJ13_bitCount_95d88_27 ?_
  refine x_ladd X dJ13_bitCount_95d88_28 ?_
  refine x_ldc2 X 1085102592571150095 n_bitCount_2 (by decide) dJ13_bitCount_95d88_29 ?_
  refine x_land X dJ13_bitCount_95d88_32 ?_
  refine x_bl (fun x0_3 ex0_3 => ?_)
  replace hV := hV x0_3 ex0_3
  clear ex0_3
  refine x_lstore_n X [(0, lV x0_3)] dJ13_bitCount_95d88_33 rfl hl (by decide) rfl (fun ls hl => ?_)
  refine x_lload_n X dJ13_bitCount_95d88_34 rfl (lv_at hl 0 rfl) ?_
  refine x_lload_n X dJ13_bitCount_95d88_35 rfl (lv_at hl 0 rfl) ?_
  refine x_bipush X dJ13_bitCount_95d88_36 (by decide) ?_
  refine x_lushr X dJ13_bitCount_95d88_38 ?_
  refine x_ladd X dJ13_bitCount_95d88_39 ?_
  refine x_bl (fun x0_4 ex0_4 => ?_)
  replace hV := hV x0_4 ex0_4
  clear ex0_4
  refine x_lstore_n X [(0, lV x0_4)] dJ13_bitCount_95d88_40 rfl hl (by decide) rfl (fun ls hl => ?_)
  refine x_lload_n X dJ13_bitCount_95d88_41 rfl (lv_at hl 0 rfl) ?_
  refine x_lload_n X dJ13_bitCount_95d88_42 rfl (lv_at hl 0 rfl) ?_
  refine x_bipush X dJ13_bitCount_95d88_43 (by decide) ?_
  refine x_lushr X dJ13_bitCount_95d88_45 ?_
  refine x_ladd X dJ13_bitCount_95d88_46 ?_
  refine x_bl (fun x0_5 ex0_5 => ?_)
  replace hV := hV x0_5 ex0_5
  clear ex0_5
  refine x_lstore_n X [(0, lV x0_5)] dJ13_bitCount_95d88_47 rfl hl (by decide) rfl (fun ls hl => ?_)
  refine x_lload_n X dJ13_bitCount_95d88_48 rfl (lv_at hl 0 rfl) ?_
  refine x_lload_n X dJ13_bitCount_95d88_49 rfl (lv_at hl 0 rfl) ?_
  refine x_bipush X dJ13_bitCount_95d88_50 (by decide) ?_
  refine x_lushr X dJ13_bitCount_95d88_52 ?_
  refine x_ladd X dJ13_bitCount_95d88_53 ?_
  refine x_bl (fun x0_6 ex0_6 => ?_)
  replace hV := hV x0_6 ex0_6
  clear ex0_6
  refine x_lstore_n X [(0, lV x0_6)] dJ13_bitCount_95d88_54 rfl hl (by decide) rfl (fun ls hl => ?_)
  refine x_lload_n X dJ13_bitCount_95d88_55 rfl (lv_at hl 0 rfl) ?_
  refine x_l2i X dJ13_bitCount_95d88_56 ?_
  refine x_bipush X dJ13_bitCount_95d88_57 (by decide) ?_
  refine x_iand X dJ13_bitCount_95d88_59 ?_
  exact hret (ian x0_6 127) σ H locs ls 60 hV hw dJ13_bitCount_95d88_60

theorem n_Ways_bitsOf_0 : Cond.fieldLink RX5 29 "LacePillow$Ways" "bits" "[J" ∈ wsX5_bitsOf := by decide +kernel
theorem n_Ways_bitsOf_1 : ∀ w ∈ wsX50, w ∈ wsX5_bitsOf := by decide +kernel
set_option maxHeartbeats 4000000 in
set_option maxRecDepth 100000 in
theorem c_Ways_bitsOf (l : Launch) (G : GT) (ad : Nat → Nat) (hI : Inj LX ad) (σ : St) (a1 : Int) (a2 : Int) {Q : Int → St → Prop} (hV : V_Ways_bitsOf σ a1 a2 Q) : Met l yX5_bitsOf wsX5_bitsOf (rmx 0 0) (Pq vwCl G LX ad σ [.ref (ad 23), iV a1, iV a2]) (Ql vwCl G LX ad Q) 0 0 (Ax LX ad) := by
  unfold V_Ways_bitsOf at hV
  refine x_metl (own := RX5) (by decide) rfl rfl (Nat.le_of_ble_eq_true rfl) hI ?_
  intro p e s m args below meth c R QQ X hR hret ls hl hw
  replace hl : lv_has ls 3 [(0, .ref (ad 23)), (1, iV a1), (2, iV a2)] := hl
  obtain ⟨H, hH⟩ : ∃ z, z = s.heap := ⟨_, rfl⟩
  obtain ⟨locs, hlo⟩ : ∃ z : List Loc, z = [] := ⟨_, rfl⟩
  rw [← hH, ← hlo]
  replace hw : Wx vwCl G LX ad s H locs σ := by rw [hH, hlo]; exact hw
  clear hH hlo
  refine x_aload_n X dX5_bitsOf_0 rfl (lv_at hl 0 rfl) ?_
  refine x_getr X hw lx23 cX5 5 (by decide) rfl n_Ways_bitsOf_1 n_Ways_bitsOf_0 dX5_bitsOf_1 ?_
  refine x_iload_n X dX5_bitsOf_4 rfl (lv_at hl 1 rfl) ?_
  refine x_bipush X dX5_bitsOf_5 (by decide) ?_
  refine x_imul X dX5_bitsOf_7 ?_
  refine x_iload_n X dX5_bitsOf_8 rfl (lv_at hl 2 rfl) ?_
  refine x_iadd X dX5_bitsOf_9 ?_
  obtain ⟨hi, hV⟩ := hV
  refine x_lald X hw lx28 rfl rfl hi dX5_bitsOf_10 ?_
  exact hret (σ 28 (i32 ((a1 * 13) + a2))) σ H locs ls 11 hV hw dX5_bitsOf_11

theorem n_Ways_countOf_0 : Cond.fieldLink RX5 15 "LacePillow$Ways" "counts" "[J" ∈ wsX5_countOf := by decide +kernel
theorem n_Ways_countOf_1 : ∀ w ∈ wsX50, w ∈ wsX5_countOf := by decide +kernel
set_option maxHeartbeats 4000000 in
set_option maxRecDepth 100000 in
theorem c_Ways_countOf (l : Launch) (G : GT) (ad : Nat → Nat) (hI : Inj LX ad) (σ : St) (a1 : Int) {Q : Int → St → Prop} (hV : V_Ways_countOf σ a1 Q) : Met l yX5_countOf wsX5_countOf (rmx 0 0) (Pq vwCl G LX ad σ [.ref (ad 23), iV a1]) (Ql vwCl G LX ad Q) 0 0 (Ax LX ad) := by
  unfold V_Ways_countOf at hV
  refine x_metl (own := RX5) (by decide) rfl rfl (Nat.le_of_ble_eq_true rfl) hI ?_
  intro p e s m args below meth c R QQ X hR hret ls hl hw
  replace hl : lv_has ls 2 [(0, .ref (ad 23)), (1, iV a1)] := hl
  obtain ⟨H, hH⟩ : ∃ z, z = s.heap := ⟨_, rfl⟩
  obtain ⟨locs, hlo⟩ : ∃ z : List Loc, z = [] := ⟨_, rfl⟩
  rw [← hH, ← hlo]
  replace hw : Wx vwCl G LX ad s H locs σ := by rw [hH, hlo]; exact hw
  clear hH hlo
  refine x_iload_n X dX5_countOf_0 rfl (lv_at hl 1 rfl) ?_
  refine x_sipush X dX5_countOf_1 (by decide) ?_
  refine x_icmp_ge X rfl k32_1296 16 dX5_countOf_4 (by decide) (fun hc => ?_) (fun hc => ?_)
  · replace hV := hV.1 hc
    refine x_lconst X 0 dX5_countOf_16 rfl ?_
    exact hret 0 σ H locs ls 17 hV hw dX5_countOf_17
  · replace hV := hV.2 hc
    refine x_aload_n X dX5_countOf_7 rfl (lv_at hl 0 rfl) ?_
    refine x_getr X hw lx23 cX5 1 (by decide) rfl n_Ways_countOf_1 n_Ways_countOf_0 dX5_countOf_8 ?_
    refine x_iload_n X dX5_countOf_11 rfl (lv_at hl 1 rfl) ?_
    obtain ⟨hi, hV⟩ := hV
    refine x_lald X hw lx24 rfl rfl hi dX5_countOf_12 ?_
    refine x_goto X 17 dX5_countOf_13 (by decide) ?_
    exact hret (σ 24 (i32 a1)) σ H locs ls 17 hV hw dX5_countOf_17

theorem n_Ways_onward_0 : Cond.fieldLink RX5 19 "LacePillow$Ways" "lengths" "[I" ∈ wsX5_onward := by decide +kernel
theorem n_Ways_onward_1 : ∀ w ∈ wsX50, w ∈ wsX5_onward := by decide +kernel
theorem n_Ways_onward_2 : Cond.fieldLink RX5 26 "LacePillow$Ways" "stitches" "[I" ∈ wsX5_onward := by decide +kernel
theorem n_Ways_onward_3 : Cond.fieldLink RX5 23 "LacePillow$Ways" "strides" "[I" ∈ wsX5_onward := by decide +kernel
set_option maxHeartbeats 4000000 in
set_option maxRecDepth 100000 in
theorem c_Ways_onward (l : Launch) (G : GT) (ad : Nat → Nat) (hI : Inj LX ad) (σ : St) (a1 : Int) (a2 : Int) (a3 : Int) (a4 : Int) {Q : Int → St → Prop} (hV : V_Ways_onward σ a1 a2 a3 a4 Q) : Met l yX5_onward wsX5_onward (rmx 1 23) (Pq vwCl G LX ad σ [.ref (ad 23), .ref (ad 16), iV a1, iV a2, lV a3, iV a4]) (Ql vwCl G LX ad Q) 0 0 (Ax LX ad) := by
  unfold V_Ways_onward at hV
  refine x_metl (own := RX5) (by decide) rfl rfl (Nat.le_of_ble_eq_true rfl) hI ?_
  intro p e s m args below meth c R QQ X hR hret ls hl hw
  replace hl : lv_has ls 7 [(0, .ref (ad 23)), (1, .ref (ad 16)), (2, iV a1), (3, iV a2), (4, lV a3), (6, iV a4)] := hl
  obtain ⟨H, hH⟩ : ∃ z, z = s.heap := ⟨_, rfl⟩
  obtain ⟨locs, hlo⟩ : ∃ z : List Loc, z = [] := ⟨_, rfl⟩
  rw [← hH, ← hlo]
  replace hw : Wx vwCl G LX ad s H locs σ := by rw [hH, hlo]; exact hw
  clear hH hlo
  refine x_iload_n X dX5_onward_0 rfl (lv_at hl 3 rfl) ?_
  refine x_aload_n X dX5_onward_1 rfl (lv_at hl 0 rfl) ?_
  refine x_getr X hw lx23 cX5 2 (by decide) rfl n_Ways_onward_1 n_Ways_onward_0 dX5_onward_2 ?_
  refine x_iload_n X dX5_onward_5 rfl (lv_at hl 2 rfl) ?_
  obtain ⟨hi, hV⟩ := hV
  refine x_iald X hw lx25 rfl rfl hi dX5_onward_6 ?_
  refine x_icmp_ge X rfl rfl 30 dX5_onward_7 (by decide) (fun hc => ?_) (fun hc => ?_)
  · replace hV := hV.1 hc
    refine x_lconst X 0 dX5_onward_30 rfl ?_
    exact hret 0 σ H locs ls 31 hV hw dX5_onward_31
  · replace hV := hV.2 hc
    refine x_aload_n X dX5_onward_10 rfl (lv_at hl 1 rfl) ?_
    refine x_aload_n X dX5_onward_11 rfl (lv_at hl 0 rfl) ?_
    refine x_getr X hw lx23 cX5 4 (by decide) rfl n_Ways_onward_1 n_Ways_onward_2 dX5_onward_12 ?_
    refine x_iload_n X dX5_onward_15 rfl (lv_at hl 2 rfl) ?_
    refine x_bipush X dX5_onward_16 (by decide) ?_
    refine x_imul X dX5_onward_18 ?_
    refine x_iload_n X dX5_onward_19 rfl (lv_at hl 3 rfl) ?_
    refine x_iadd X dX5_onward_20 ?_
    obtain ⟨hi, hV⟩ := hV
    refine x_iald X hw lx27 rfl rfl hi dX5_onward_21 ?_
    refine x_lload X dX5_onward_22 (lv_at hl 4 rfl) ?_
    refine x_cvz X hw [iV (σ 27 (i32 ((a1 * 12) + a2))), lV a3] [] (c_Ground_isFree l G ad hI σ (σ 27 (i32 ((a1 * 12) + a2))) a3 hV) (cwV 2 X.2.2.2.2 gX5_onward_X0_isFree rfl rfl rfl hd_Ground_isFree ⟨x_fr hR.1 rfl, x_fr hR.2 rfl⟩) lx16 cX0 rfl hl.1 rfl (Nat.le_of_ble_eq_true rfl) dX5_onward_24 ⟨Nat.zero_le _, Nat.zero_le _⟩ (fun r2 σ1 H locs hr2 hV hw => ?_)
    refine x_if_ne X rfl 32 dX5_onward_27 (by decide) (fun hc => ?_) (fun hc => ?_)
    · replace hV := hV.1 hc
      refine x_aload_n X dX5_onward_32 rfl (lv_at hl 0 rfl) ?_
      refine x_iload X dX5_onward_33 (lv_at hl 5 rfl) ?_
      refine x_aload_n X dX5_onward_35 rfl (lv_at hl 0 rfl) ?_
      refine x_getr X hw lx23 cX5 3 (by decide) rfl n_Ways_onward_1 n_Ways_onward_3 dX5_onward_36 ?_
      refine x_iload_n X dX5_onward_39 rfl (lv_at hl 2 rfl) ?_
      obtain ⟨hi, hV⟩ := hV
      refine x_iald X hw lx26 rfl rfl hi dX5_onward_40 ?_
      refine x_iadd X dX5_onward_41 ?_
      refine x_cvl X hw [iV (a4 + (σ1 26 (i32 a1)))] [] (c_Ways_countOf l G ad hI σ1 (a4 + (σ1 26 (i32 a1))) hV) (cwV 1 X.2.2.2.2 gX5_onward_X5_countOf rfl rfl rfl hd_Ways_countOf ⟨x_fr hR.1 rfl, x_fr hR.2 rfl⟩) lx23 cX5 rfl hl.1 rfl (Nat.le_of_ble_eq_true rfl) dX5_onward_42 ⟨Nat.zero_le _, Nat.zero_le _⟩ (fun r4 σ3 H locs hV hw => ?_)
      exact hret r4 σ3 H locs ls 45 hV hw dX5_onward_45
    · replace hV := hV.2 hc
      refine x_lconst X 0 dX5_onward_30 rfl ?_
      exact hret 0 σ1 H locs ls 31 hV hw dX5_onward_31

theorem n_Ways_reckonState_0 : Cond.fieldLink RX5 23 "LacePillow$Ways" "strides" "[I" ∈ wsX5_reckonState := by decide +kernel
theorem n_Ways_reckonState_1 : ∀ w ∈ wsX50, w ∈ wsX5_reckonState := by decide +kernel
theorem n_Ways_reckonState_2 : Cond.fieldLink RX5 49 "LacePillow$Ground" "size" "I" ∈ wsX5_reckonState := by decide +kernel
theorem n_Ways_reckonState_3 : ∀ w ∈ wsX00, w ∈ wsX5_reckonState := by decide +kernel
theorem n_Ways_reckonState_4 : Cond.fieldLink RX5 15 "LacePillow$Ways" "counts" "[J" ∈ wsX5_reckonState := by decide +kernel
set_option maxHeartbeats 4000000 in
set_option maxRecDepth 100000 in
theorem c_Ways_reckonState (l : Launch) (G : GT) (ad : Nat → Nat) (hI : Inj LX ad) (σ : St) (a1 : Int) (a2 : Int) (a3 : Int) (a4 : Int) {Q : St → Prop} (hV : V_Ways_reckonState σ a1 a2 a3 a4 Q) : Met l yX5_reckonState wsX5_reckonState (rmx 2 49) (Pq vwCl G LX ad σ [.ref (ad 23), .ref (ad 16), iV a1, iV a2, iV a3, iV a4]) (Qv vwCl G LX ad Q) 0 0 (Ax LX ad) := by
  unfold V_Ways_reckonState at hV
  refine x_metv (own := RX5) (by decide) rfl rfl (Nat.le_of_ble_eq_true rfl) hI ?_
  intro p e s m args below meth c R QQ X hR hret ls hl hw
  replace hl : lv_has ls 9 [(0, .ref (ad 23)), (1, .ref (ad 16)), (2, iV a1), (3, iV a2), (4, iV a3), (5, iV a4)] := hl
  obtain ⟨H, hH⟩ : ∃ z, z = s.heap := ⟨_, rfl⟩
  obtain ⟨locs, hlo⟩ : ∃ z : List Loc, z = [] := ⟨_, rfl⟩
  rw [← hH, ← hlo]
  replace hw : Wx vwCl G LX ad s H locs σ := by rw [hH, hlo]; exact hw
  clear hH hlo
  refine x_iload_n X dX5_reckonState_0 rfl (lv_at hl 2 rfl) ?_
  refine x_aload_n X dX5_reckonState_1 rfl (lv_at hl 0 rfl) ?_
  refine x_getr X hw lx23 cX5 3 (by decide) rfl n_Ways_reckonState_1 n_Ways_reckonState_0 dX5_reckonState_2 ?_
  refine x_iconst X dX5_reckonState_5 ?_
  refine x_iald X hw lx26 k32_0 rfl (show (0 : Int) ≤ 0 ∧ (0 : Int) < 4 by decide) dX5_reckonState_6 ?_
  refine x_imul X dX5_reckonState_7 ?_
  refine x_iload_n X dX5_reckonState_8 rfl (lv_at hl 3 rfl) ?_
  refine x_aload_n X dX5_reckonState_9 rfl (lv_at hl 0 rfl) ?_
  refine x_getr X hw lx23 cX5 3 (by decide) rfl n_Ways_reckonState_1 n_Ways_reckonState_0 dX5_reckonState_10 ?_
  refine x_iconst X dX5_reckonState_13 ?_
  refine x_iald X hw lx26 k32_1 rfl (show (0 : Int) ≤ 1 ∧ (1 : Int) < 4 by decide) dX5_reckonState_14 ?_
  refine x_imul X dX5_reckonState_15 ?_
  refine x_iadd X dX5_reckonState_16 ?_
  refine x_iload X dX5_reckonState_17 (lv_at hl 4 rfl) ?_
  refine x_aload_n X dX5_reckonState_19 rfl (lv_at hl 0 rfl) ?_
  refine x_getr X hw lx23 cX5 3 (by decide) rfl n_Ways_reckonState_1 n_Ways_reckonState_0 dX5_reckonState_20 ?_
  refine x_iconst X dX5_reckonState_23 ?_
  refine x_iald X hw lx26 k32_2 rfl (show (0 : Int) ≤ 2 ∧ (2 : Int) < 4 by decide) dX5_reckonState_24 ?_
  refine x_imul X dX5_reckonState_25 ?_
  refine x_iadd X dX5_reckonState_26 ?_
  refine x_iload X dX5_reckonState_27 (lv_at hl 5 rfl) ?_
  refine x_aload_n X dX5_reckonState_29 rfl (lv_at hl 0 rfl) ?_
  refine x_getr X hw lx23 cX5 3 (by decide) rfl n_Ways_reckonState_1 n_Ways_reckonState_0 dX5_reckonState_30 ?_
  refine x_iconst X dX5_reckonState_33 ?_
  refine x_iald X hw lx26 k32_3 rfl (show (0 : Int) ≤ 3 ∧ (3 : Int) < 4 by decide) dX5_reckonState_34 ?_
  refine x_imul X dX5_reckonState_35 ?_
  refine x_iadd X dX5_reckonState_36 ?_
  refine x_bi (fun x6_1 ex6_1 => ?_)
  replace hV := hV x6_1 ex6_1
  clear ex6_1
  refine x_istore X [(6, iV x6_1), (0, .ref (ad 23)), (1, .ref (ad 16)), (2, iV a1), (3, iV a2), (4, iV a3), (5, iV a4)] dX5_reckonState_37 hl (by decide) rfl (fun ls hl => ?_)
  refine x_iload X dX5_reckonState_39 (lv_at hl 0 rfl) ?_
  refine x_sipush X dX5_reckonState_41 (by decide) ?_
  refine x_icmp_lt X rfl k32_1296 48 dX5_reckonState_44 (by decide) (fun hc => ?_) (fun hc => ?_)
  · replace hV := hV.1 hc
    refine x_aload_n X dX5_reckonState_48 rfl (lv_at hl 1 rfl) ?_
    refine x_iconst X dX5_reckonState_49 ?_
    refine x_iload_n X dX5_reckonState_50 rfl (lv_at hl 3 rfl) ?_
    refine x_cvl X hw [iV 0, iV a1] [] (c_Ways_bitsOf l G ad hI σ 0 a1 hV) (cwV 2 X.2.2.2.2 gX5_reckonState_X5_bitsOf rfl rfl rfl hd_Ways_bitsOf ⟨x_fr hR.1 rfl, x_fr hR.2 rfl⟩) lx23 cX5 rfl hl.1 rfl (Nat.le_of_ble_eq_true rfl) dX5_reckonState_51 ⟨Nat.zero_le _, Nat.zero_le _⟩ (fun r3 σ2 H locs hV hw => ?_)
    refine x_aload_n X dX5_reckonState_54 rfl (lv_at hl 1 rfl) ?_
    refine x_iconst X dX5_reckonState_55 ?_
    refine x_iload_n X dX5_reckonState_56 rfl (lv_at hl 4 rfl) ?_
    refine x_cvl X hw [iV 1, iV a2] [lV r3] (c_Ways_bitsOf l G ad hI σ2 1 a2 hV) (cwV 2 X.2.2.2.2 gX5_reckonState_X5_bitsOf rfl rfl rfl hd_Ways_bitsOf ⟨x_fr hR.1 rfl, x_fr hR.2 rfl⟩) lx23 cX5 rfl hl.1 rfl (Nat.le_of_ble_eq_true rfl) dX5_reckonState_57 ⟨Nat.zero_le _, Nat.zero_le _⟩ (fun r5 σ4 H locs hV hw => ?_)
    refine x_lor X dX5_reckonState_60 ?_
    refine x_aload_n X dX5_reckonState_61 rfl (lv_at hl 1 rfl) ?_
    refine x_iconst X dX5_reckonState_62 ?_
    refine x_iload X dX5_reckonState_63 (lv_at hl 5 rfl) ?_
    refine x_cvl X hw [iV 2, iV a3] [lV (lro r3 r5)] (c_Ways_bitsOf l G ad hI σ4 2 a3 hV) (cwV 2 X.2.2.2.2 gX5_reckonState_X5_bitsOf rfl rfl rfl hd_Ways_bitsOf ⟨x_fr hR.1 rfl, x_fr hR.2 rfl⟩) lx23 cX5 rfl hl.1 rfl (Nat.le_of_ble_eq_true rfl) dX5_reckonState_65 ⟨Nat.zero_le _, Nat.zero_le _⟩ (fun r7 σ6 H locs hV hw => ?_)
    refine x_lor X dX5_reckonState_68 ?_
    refine x_aload_n X dX5_reckonState_69 rfl (lv_at hl 1 rfl) ?_
    refine x_iconst X dX5_reckonState_70 ?_
    refine x_iload X dX5_reckonState_71 (lv_at hl 6 rfl) ?_
    refine x_cvl X hw [iV 3, iV a4] [lV (lro (lro r3 r5) r7)] (c_Ways_bitsOf l G ad hI σ6 3 a4 hV) (cwV 2 X.2.2.2.2 gX5_reckonState_X5_bitsOf rfl rfl rfl hd_Ways_bitsOf ⟨x_fr hR.1 rfl, x_fr hR.2 rfl⟩) lx23 cX5 rfl hl.1 rfl (Nat.le_of_ble_eq_true rfl) dX5_reckonState_73 ⟨Nat.zero_le _, Nat.zero_le _⟩ (fun r9 σ8 H locs hV hw => ?_)
    refine x_lor X dX5_reckonState_76 ?_
    refine x_bl (fun x7_10 ex7_10 => ?_)
    replace hV := hV x7_10 ex7_10
    clear ex7_10
    refine x_lstore X [(7, lV x7_10), (6, iV x6_1), (0, .ref (ad 23)), (1, .ref (ad 16)), (2, iV a1), (3, iV a2), (4, iV a3), (5, iV a4)] dX5_reckonState_77 hl (by decide) rfl (fun ls hl => ?_)
    refine x_lload X dX5_reckonState_79 (lv_at hl 0 rfl) ?_
    refine x_csi X hw [lV x7_10] [] (c_bitCount l G ad hI σ8 x7_10 hV) (va_cwS 1 X.2.2.2.2 gX5_reckonState_J13_bitCount_95d88 rfl rfl rfl hd_bitCount ⟨x_fr hR.1 rfl, x_fr hR.2 rfl⟩) rfl hl.1 rfl (Nat.le_of_ble_eq_true rfl) dX5_reckonState_81 ⟨Nat.zero_le _, Nat.zero_le _⟩ (fun r12 σ11 H locs hV hw => ?_)
    refine x_aload_n X dX5_reckonState_84 rfl (lv_at hl 3 rfl) ?_
    refine x_geti X hw lx16 cX0 0 (by decide) rfl n_Ways_reckonState_3 n_Ways_reckonState_2 dX5_reckonState_85 ?_
    refine x_icmp_ne X rfl rfl 100 dX5_reckonState_88 (by decide) (fun hc => ?_) (fun hc => ?_)
    · replace hV := hV.1 hc
      refine x_aload_n X dX5_reckonState_100 rfl (lv_at hl 2 rfl) ?_
      refine x_getr X hw lx23 cX5 1 (by decide) rfl n_Ways_reckonState_1 n_Ways_reckonState_4 dX5_reckonState_101 ?_
      refine x_iload X dX5_reckonState_104 (lv_at hl 1 rfl) ?_
      refine x_aload_n X dX5_reckonState_106 rfl (lv_at hl 2 rfl) ?_
      refine x_aload_n X dX5_reckonState_107 rfl (lv_at hl 3 rfl) ?_
      refine x_iconst X dX5_reckonState_108 ?_
      refine x_iload_n X dX5_reckonState_109 rfl (lv_at hl 4 rfl) ?_
      refine x_lload X dX5_reckonState_110 (lv_at hl 0 rfl) ?_
      refine x_iload X dX5_reckonState_112 (lv_at hl 1 rfl) ?_
      refine x_cvl X hw [.ref (ad 16), iV 0, iV a1, lV x7_10, iV x6_1] [iV x6_1, .ref (ad 24)] (c_Ways_onward l G ad hI σ11 0 a1 x7_10 x6_1 hV) (cwV 5 X.2.2.2.2 gX5_reckonState_X5_onward rfl rfl rfl hd_Ways_onward ⟨x_fr hR.1 rfl, x_fr hR.2 rfl⟩) lx23 cX5 rfl hl.1 rfl (Nat.le_of_ble_eq_true rfl) dX5_reckonState_114 ⟨Nat.zero_le _, Nat.zero_le _⟩ (fun r14 σ13 H locs hV hw => ?_)
      refine x_aload_n X dX5_reckonState_117 rfl (lv_at hl 2 rfl) ?_
      refine x_aload_n X dX5_reckonState_118 rfl (lv_at hl 3 rfl) ?_
      refine x_iconst X dX5_reckonState_119 ?_
      refine x_iload_n X dX5_reckonState_120 rfl (lv_at hl 5 rfl) ?_
      refine x_lload X dX5_reckonState_121 (lv_at hl 0 rfl) ?_
      refine x_iload X dX5_reckonState_123 (lv_at hl 1 rfl) ?_
      refine x_cvl X hw [.ref (ad 16), iV 1, iV a2, lV x7_10, iV x6_1] [lV r14, iV x6_1, .ref (ad 24)] (c_Ways_onward l G ad hI σ13 1 a2 x7_10 x6_1 hV) (cwV 5 X.2.2.2.2 gX5_reckonState_X5_onward rfl rfl rfl hd_Ways_onward ⟨x_fr hR.1 rfl, x_fr hR.2 rfl⟩) lx23 cX5 rfl hl.1 rfl (Nat.le_of_ble_eq_true rfl) dX5_reckonState_125 ⟨Nat.zero_le _, Nat.zero_le _⟩ (fun r16 σ15 H locs hV hw => ?_)
      refine x_ladd X dX5_reckonState_128 ?_
      refine x_aload_n X dX5_reckonState_129 rfl (lv_at hl 2 rfl) ?_
      refine x_aload_n X dX5_reckonState_130 rfl (lv_at hl 3 rfl) ?_
      refine x_iconst X dX5_reckonState_131 ?_
      refine x_iload X dX5_reckonState_132 (lv_at hl 6 rfl) ?_
      refine x_lload X dX5_reckonState_134 (lv_at hl 0 rfl) ?_
      refine x_iload X dX5_reckonState_136 (lv_at hl 1 rfl) ?_
      refine x_cvl X hw [.ref (ad 16), iV 2, iV a3, lV x7_10, iV x6_1] [lV (r14 + r16), iV x6_1, .ref (ad 24)] (c_Ways_onward l G ad hI σ15 2 a3 x7_10 x6_1 hV) (cwV 5 X.2.2.2.2 gX5_reckonState_X5_onward rfl rfl rfl hd_Ways_onward ⟨x_fr hR.1 rfl, x_fr hR.2 rfl⟩) lx23 cX5 rfl hl.1 rfl (Nat.le_of_ble_eq_true rfl) dX5_reckonState_138 ⟨Nat.zero_le _, Nat.zero_le _⟩ (fun r18 σ17 H locs hV hw => ?_)
      refine x_ladd X dX5_reckonState_141 ?_
      refine x_aload_n X dX5_reckonState_142 rfl (lv_at hl 2 rfl) ?_
      refine x_aload_n X dX5_reckonState_143 rfl (lv_at hl 3 rfl) ?_
      refine x_iconst X dX5_reckonState_144 ?_
      refine x_iload X dX5_reckonState_145 (lv_at hl 7 rfl) ?_
      refine x_lload X dX5_reckonState_147 (lv_at hl 0 rfl) ?_
      refine x_iload X dX5_reckonState_149 (lv_at hl 1 rfl) ?_
      refine x_cvl X hw [.ref (ad 16), iV 3, iV a4, lV x7_10, iV x6_1] [lV ((r14 + r16) + r18), iV x6_1, .ref (ad 24)] (c_Ways_onward l G ad hI σ17 3 a4 x7_10 x6_1 hV) (cwV 5 X.2.2.2.2 gX5_reckonState_X5_onward rfl rfl rfl hd_Ways_onward ⟨x_fr hR.1 rfl, x_fr hR.2 rfl⟩) lx23 cX5 rfl hl.1 rfl (Nat.le_of_ble_eq_true rfl) dX5_reckonState_151 ⟨Nat.zero_le _, Nat.zero_le _⟩ (fun r20 σ19 H locs hV hw => ?_)
      refine x_ladd X dX5_reckonState_154 ?_
      obtain ⟨hi, hV⟩ := hV
      refine x_last X hw lx24 rfl rfl hi dX5_reckonState_155 (fun H locs σ21 hs hw => ?_)
      replace hV := hV σ21 hs
      exact hret σ21 H locs ls 156 hV hw dX5_reckonState_156
    · replace hV := hV.2 hc
      refine x_aload_n X dX5_reckonState_91 rfl (lv_at hl 2 rfl) ?_
      refine x_getr X hw lx23 cX5 1 (by decide) rfl n_Ways_reckonState_1 n_Ways_reckonState_4 dX5_reckonState_92 ?_
      refine x_iload X dX5_reckonState_95 (lv_at hl 1 rfl) ?_
      refine x_lconst X 1 dX5_reckonState_97 rfl ?_
      obtain ⟨hi, hV⟩ := hV
      refine x_last X hw lx24 rfl rfl hi dX5_reckonState_98 (fun H locs σ22 hs hw => ?_)
      replace hV := hV σ22 hs
      exact hret σ22 H locs ls 99 hV hw dX5_reckonState_99
  · replace hV := hV.2 hc
    exact hret σ H locs ls 47 hV hw dX5_reckonState_47

theorem n_Ways_sortIntoLines_0 : Cond.fieldLink RX5 19 "LacePillow$Ways" "lengths" "[I" ∈ wsX5_sortIntoLines := by decide +kernel
theorem n_Ways_sortIntoLines_1 : ∀ w ∈ wsX50, w ∈ wsX5_sortIntoLines := by decide +kernel
theorem n_Ways_sortIntoLines_2 : Cond.fieldLink RX5 29 "LacePillow$Ways" "bits" "[J" ∈ wsX5_sortIntoLines := by decide +kernel
theorem n_Ways_sortIntoLines_3 : Cond.fieldLink RX5 49 "LacePillow$Ground" "size" "I" ∈ wsX5_sortIntoLines := by decide +kernel
theorem n_Ways_sortIntoLines_4 : ∀ w ∈ wsX00, w ∈ wsX5_sortIntoLines := by decide +kernel
theorem n_Ways_sortIntoLines_5 : Cond.fieldLink RX5 23 "LacePillow$Ways" "strides" "[I" ∈ wsX5_sortIntoLines := by decide +kernel
theorem n_Ways_sortIntoLines_6 : Cond.fieldLink RX5 55 "LacePillow$Ground" "gaps" "[I" ∈ wsX5_sortIntoLines := by decide +kernel
theorem n_Ways_sortIntoLines_7 : Cond.fieldLink RX5 26 "LacePillow$Ways" "stitches" "[I" ∈ wsX5_sortIntoLines := by decide +kernel
set_option maxHeartbeats 4000000 in
set_option maxRecDepth 100000 in
theorem c_Ways_sortIntoLines (l : Launch) (G : GT) (ad : Nat → Nat) (hI : Inj LX ad) (σ : St) {Q : St → Prop} (hV : V_Ways_sortIntoLines σ Q) : Met l yX5_sortIntoLines wsX5_sortIntoLines (rmx 1 24) (Pq vwCl G LX ad σ [.ref (ad 23), .ref (ad 16)]) (Qv vwCl G LX ad Q) 0 0 (Ax LX ad) := by
  unfold V_Ways_sortIntoLines at hV
  refine x_metv (own := RX5) (by decide) rfl rfl (Nat.le_of_ble_eq_true rfl) hI ?_
  intro p e s m args below meth c R QQ X hR hret ls hl hw
  replace hl : lv_has ls 5 [(0, .ref (ad 23)), (1, .ref (ad 16))] := hl
  obtain ⟨H, hH⟩ : ∃ z, z = s.heap := ⟨_, rfl⟩
  obtain ⟨locs, hlo⟩ : ∃ z : List Loc, z = [] := ⟨_, rfl⟩
  rw [← hH, ← hlo]
  replace hw : Wx vwCl G LX ad s H locs σ := by rw [hH, hlo]; exact hw
  clear hH hlo
  refine x_aload_n X dX5_sortIntoLines_0 rfl (lv_at hl 0 rfl) ?_
  refine x_getr X hw lx23 cX5 2 (by decide) rfl n_Ways_sortIntoLines_1 n_Ways_sortIntoLines_0 dX5_sortIntoLines_1 ?_
  refine x_iconst X dX5_sortIntoLines_4 ?_
  refine x_csv X hw [.ref (ad 25), iV 0] [] (c_fillI l G ad hI 25 4 lx25 σ 0 hV) (va_cwS 2 X.2.2.2.2 gX5_sortIntoLines_J7_fill_53178 rfl rfl rfl hd_fillI ⟨x_fr hR.1 rfl, x_fr hR.2 rfl⟩) rfl hl.1 rfl (Nat.le_of_ble_eq_true rfl) dX5_sortIntoLines_5 ⟨Nat.zero_le _, Nat.zero_le _⟩ (fun σ1 H locs hV hw => ?_)
  refine x_aload_n X dX5_sortIntoLines_8 rfl (lv_at hl 0 rfl) ?_
  refine x_getr X hw lx23 cX5 5 (by decide) rfl n_Ways_sortIntoLines_1 n_Ways_sortIntoLines_2 dX5_sortIntoLines_9 ?_
  refine x_lconst X 0 dX5_sortIntoLines_12 rfl ?_
  refine x_csv X hw [.ref (ad 28), lV 0] [] (c_fillJ l G ad hI 28 52 lx28 σ1 0 hV) (va_cwS 2 X.2.2.2.2 gX5_sortIntoLines_J7_fill_d0a16 rfl rfl rfl hd_fillJ ⟨x_fr hR.1 rfl, x_fr hR.2 rfl⟩) rfl hl.1 rfl (Nat.le_of_ble_eq_true rfl) dX5_sortIntoLines_13 ⟨Nat.zero_le _, Nat.zero_le _⟩ (fun σ2 H locs hV hw => ?_)
  refine x_iconst X dX5_sortIntoLines_16 ?_
  refine x_istore_n X [(2, iV 0), (0, .ref (ad 23)), (1, .ref (ad 16))] dX5_sortIntoLines_17 rfl hl (by decide) rfl (fun ls hl => ?_)
  refine WL1.use (Gl := fun x2_3 σ4 => ∀ (H : Heap) (locs : List Loc) (ls : Array Slot), Wx vwCl G LX ad s H locs σ4 → lv_has ls 5 [(2, iV x2_3), (0, .ref (ad 23)), (1, .ref (ad 16))] → W p l e R s m args below meth c H locs 0 0 QQ (F0 m 18 ls [])) ?_ hV H locs ls hw hl
  clear hV hw hl H locs ls
  intro bk5 x2_3 σ4 hbk5 hV H locs ls hw hl
  refine x_iload_n X dX5_sortIntoLines_18 rfl (lv_at hl 0 rfl) ?_
  refine x_aload_n X dX5_sortIntoLines_19 rfl (lv_at hl 2 rfl) ?_
  refine x_geti X hw lx16 cX0 0 (by decide) rfl n_Ways_sortIntoLines_4 n_Ways_sortIntoLines_3 dX5_sortIntoLines_20 ?_
  refine x_icmp_ge X rfl rfl 109 dX5_sortIntoLines_23 (by decide) (fun hc => ?_) (fun hc => ?_)
  · replace hV := hV.1 hc
    refine x_iconst X dX5_sortIntoLines_109 ?_
    refine x_istore_n X [(2, iV 1), (0, .ref (ad 23)), (1, .ref (ad 16))] dX5_sortIntoLines_110 rfl hl (by decide) rfl (fun ls hl => ?_)
    refine x_iconst X dX5_sortIntoLines_111 ?_
    refine x_istore_n X [(3, iV 0), (2, iV 1), (0, .ref (ad 23)), (1, .ref (ad 16))] dX5_sortIntoLines_112 rfl hl (by decide) rfl (fun ls hl => ?_)
    refine WL2.use (Gl := fun x3_6 x2_7 σ8 => ∀ (H : Heap) (locs : List Loc) (ls : Array Slot), Wx vwCl G LX ad s H locs σ8 → lv_has ls 5 [(3, iV x3_6), (2, iV x2_7), (0, .ref (ad 23))] → W p l e R s m args below meth c H locs 0 0 QQ (F0 m 113 ls [])) ?_ hV H locs ls hw (lv_sub hl [0, 1, 2] rfl)
    clear hV hw hl H locs ls
    intro bk9 x3_6 x2_7 σ8 hbk9 hV H locs ls hw hl
    refine x_iload_n X dX5_sortIntoLines_113 rfl (lv_at hl 0 rfl) ?_
    refine x_iconst X dX5_sortIntoLines_114 ?_
    refine x_icmp_ge X rfl k32_4 142 dX5_sortIntoLines_115 (by decide) (fun hc => ?_) (fun hc => ?_)
    · replace hV := hV.1 hc
      exact hret σ8 H locs ls 142 hV hw dX5_sortIntoLines_142
    · replace hV := hV.2 hc
      refine x_aload_n X dX5_sortIntoLines_118 rfl (lv_at hl 2 rfl) ?_
      refine x_getr X hw lx23 cX5 3 (by decide) rfl n_Ways_sortIntoLines_1 n_Ways_sortIntoLines_5 dX5_sortIntoLines_119 ?_
      refine x_iload_n X dX5_sortIntoLines_122 rfl (lv_at hl 0 rfl) ?_
      refine x_iload_n X dX5_sortIntoLines_123 rfl (lv_at hl 1 rfl) ?_
      obtain ⟨hi, hV⟩ := hV
      refine x_iast X hw lx26 rfl rfl hi dX5_sortIntoLines_124 (fun H locs σ10 hs hw => ?_)
      replace hV := hV σ10 hs
      refine x_iload_n X dX5_sortIntoLines_125 rfl (lv_at hl 1 rfl) ?_
      refine x_aload_n X dX5_sortIntoLines_126 rfl (lv_at hl 2 rfl) ?_
      refine x_getr X hw lx23 cX5 2 (by decide) rfl n_Ways_sortIntoLines_1 n_Ways_sortIntoLines_0 dX5_sortIntoLines_127 ?_
      refine x_iload_n X dX5_sortIntoLines_130 rfl (lv_at hl 0 rfl) ?_
      obtain ⟨hi, hV⟩ := hV
      refine x_iald X hw lx25 rfl rfl hi dX5_sortIntoLines_131 ?_
      refine x_iconst X dX5_sortIntoLines_132 ?_
      refine x_iadd X dX5_sortIntoLines_133 ?_
      refine x_imul X dX5_sortIntoLines_134 ?_
      refine x_bi (fun x2_11 ex2_11 => ?_)
      replace hV := hV x2_11 ex2_11
      clear ex2_11
      refine x_istore_n X [(2, iV x2_11), (3, iV x3_6), (0, .ref (ad 23))] dX5_sortIntoLines_135 rfl hl (by decide) rfl (fun ls hl => ?_)
      refine x_iinc X (k := 1) (x3_6 + 1) [(3, iV (x3_6 + 1)), (2, iV x2_11), (0, .ref (ad 23))] dX5_sortIntoLines_136 hl rfl rfl (by decide) rfl (fun ls hl => ?_)
      refine x_goto X 113 dX5_sortIntoLines_139 (by decide) ?_
      exact hbk9 (x3_6 + 1) x2_11 σ10 hV H locs ls hw hl
  · replace hV := hV.2 hc
    refine x_aload_n X dX5_sortIntoLines_26 rfl (lv_at hl 2 rfl) ?_
    refine x_getr X hw lx16 cX0 3 (by decide) rfl n_Ways_sortIntoLines_4 n_Ways_sortIntoLines_6 dX5_sortIntoLines_27 ?_
    refine x_iload_n X dX5_sortIntoLines_30 rfl (lv_at hl 0 rfl) ?_
    obtain ⟨hi, hV⟩ := hV
    refine x_iald X hw lx18 rfl rfl hi dX5_sortIntoLines_31 ?_
    refine x_iconst X dX5_sortIntoLines_32 ?_
    refine x_idiv X dX5_sortIntoLines_33 (by decide) ?_
    refine x_bi (fun x3_12 ex3_12 => ?_)
    replace hV := hV x3_12 ex3_12
    clear ex3_12
    refine x_istore_n X [(3, iV x3_12), (2, iV x2_3), (0, .ref (ad 23)), (1, .ref (ad 16))] dX5_sortIntoLines_34 rfl hl (by decide) rfl (fun ls hl => ?_)
    refine x_aload_n X dX5_sortIntoLines_35 rfl (lv_at hl 2 rfl) ?_
    refine x_getr X hw lx23 cX5 2 (by decide) rfl n_Ways_sortIntoLines_1 n_Ways_sortIntoLines_0 dX5_sortIntoLines_36 ?_
    refine x_iload_n X dX5_sortIntoLines_39 rfl (lv_at hl 0 rfl) ?_
    obtain ⟨hi, hV⟩ := hV
    refine x_iald X hw lx25 rfl rfl hi dX5_sortIntoLines_40 ?_
    refine x_bi (fun x4_13 ex4_13 => ?_)
    replace hV := hV x4_13 ex4_13
    clear ex4_13
    refine x_istore X [(4, iV x4_13), (3, iV x3_12), (2, iV x2_3), (0, .ref (ad 23)), (1, .ref (ad 16))] dX5_sortIntoLines_41 hl (by decide) rfl (fun ls hl => ?_)
    refine x_iload X dX5_sortIntoLines_43 (lv_at hl 0 rfl) ?_
    refine x_bipush X dX5_sortIntoLines_45 (by decide) ?_
    refine x_icmp_ge X rfl k32_12 103 dX5_sortIntoLines_47 (by decide) (fun hc => ?_) (fun hc => ?_)
    · replace hV := hV.1 hc
      refine x_iinc X (k := 2) (x2_3 + 1) [(2, iV (x2_3 + 1)), (4, iV x4_13), (3, iV x3_12), (0, .ref (ad 23)), (1, .ref (ad 16))] dX5_sortIntoLines_103 hl rfl rfl (by decide) rfl (fun ls hl => ?_)
      refine x_goto X 18 dX5_sortIntoLines_106 (by decide) ?_
      exact hbk5 (x2_3 + 1) σ4 hV H locs ls hw (lv_sub hl [0, 3, 4] rfl)
    · replace hV := hV.2 hc
      refine x_aload_n X dX5_sortIntoLines_50 rfl (lv_at hl 3 rfl) ?_
      refine x_getr X hw lx23 cX5 4 (by decide) rfl n_Ways_sortIntoLines_1 n_Ways_sortIntoLines_7 dX5_sortIntoLines_51 ?_
      refine x_iload_n X dX5_sortIntoLines_54 rfl (lv_at hl 1 rfl) ?_
      refine x_bipush X dX5_sortIntoLines_55 (by decide) ?_
      refine x_imul X dX5_sortIntoLines_57 ?_
      refine x_iload X dX5_sortIntoLines_58 (lv_at hl 0 rfl) ?_
      refine x_iadd X dX5_sortIntoLines_60 ?_
      refine x_iload_n X dX5_sortIntoLines_61 rfl (lv_at hl 2 rfl) ?_
      obtain ⟨hi, hV⟩ := hV
      refine x_iast X hw lx27 rfl rfl hi dX5_sortIntoLines_62 (fun H locs σ14 hs hw => ?_)
      replace hV := hV σ14 hs
      refine x_aload_n X dX5_sortIntoLines_63 rfl (lv_at hl 3 rfl) ?_
      refine x_getr X hw lx23 cX5 5 (by decide) rfl n_Ways_sortIntoLines_1 n_Ways_sortIntoLines_2 dX5_sortIntoLines_64 ?_
      refine x_iload_n X dX5_sortIntoLines_67 rfl (lv_at hl 1 rfl) ?_
      refine x_bipush X dX5_sortIntoLines_68 (by decide) ?_
      refine x_imul X dX5_sortIntoLines_70 ?_
      refine x_iload X dX5_sortIntoLines_71 (lv_at hl 0 rfl) ?_
      refine x_iadd X dX5_sortIntoLines_73 ?_
      refine x_iconst X dX5_sortIntoLines_74 ?_
      refine x_iadd X dX5_sortIntoLines_75 ?_
      refine x_aload_n X dX5_sortIntoLines_76 rfl (lv_at hl 3 rfl) ?_
      refine x_getr X hw lx23 cX5 5 (by decide) rfl n_Ways_sortIntoLines_1 n_Ways_sortIntoLines_2 dX5_sortIntoLines_77 ?_
      refine x_iload_n X dX5_sortIntoLines_80 rfl (lv_at hl 1 rfl) ?_
      refine x_bipush X dX5_sortIntoLines_81 (by decide) ?_
      refine x_imul X dX5_sortIntoLines_83 ?_
      refine x_iload X dX5_sortIntoLines_84 (lv_at hl 0 rfl) ?_
      refine x_iadd X dX5_sortIntoLines_86 ?_
      obtain ⟨hi, hV⟩ := hV
      refine x_lald X hw lx28 rfl rfl hi dX5_sortIntoLines_87 ?_
      refine x_lconst X 1 dX5_sortIntoLines_88 rfl ?_
      refine x_iload_n X dX5_sortIntoLines_89 rfl (lv_at hl 2 rfl) ?_
      refine x_lshl X dX5_sortIntoLines_90 ?_
      refine x_lor X dX5_sortIntoLines_91 ?_
      obtain ⟨hi, hV⟩ := hV
      refine x_last X hw lx28 rfl rfl hi dX5_sortIntoLines_92 (fun H locs σ15 hs hw => ?_)
      replace hV := hV σ15 hs
      refine x_aload_n X dX5_sortIntoLines_93 rfl (lv_at hl 3 rfl) ?_
      refine x_getr X hw lx23 cX5 2 (by decide) rfl n_Ways_sortIntoLines_1 n_Ways_sortIntoLines_0 dX5_sortIntoLines_94 ?_
      refine x_iload_n X dX5_sortIntoLines_97 rfl (lv_at hl 1 rfl) ?_
      refine x_iload X dX5_sortIntoLines_98 (lv_at hl 0 rfl) ?_
      refine x_iconst X dX5_sortIntoLines_100 ?_
      refine x_iadd X dX5_sortIntoLines_101 ?_
      obtain ⟨hi, hV⟩ := hV
      refine x_iast X hw lx25 rfl rfl hi dX5_sortIntoLines_102 (fun H locs σ16 hs hw => ?_)
      replace hV := hV σ16 hs
      refine x_iinc X (k := 2) (x2_3 + 1) [(2, iV (x2_3 + 1)), (4, iV x4_13), (3, iV x3_12), (0, .ref (ad 23)), (1, .ref (ad 16))] dX5_sortIntoLines_103 hl rfl rfl (by decide) rfl (fun ls hl => ?_)
      refine x_goto X 18 dX5_sortIntoLines_106 (by decide) ?_
      exact hbk5 (x2_3 + 1) σ16 hV H locs ls hw (lv_sub hl [0, 3, 4] rfl)

theorem n_Ways_reckon_0 : Cond.fieldLink RX5 9 "LacePillow$Ways" "known" "Z" ∈ wsX5_reckon := by decide +kernel
theorem n_Ways_reckon_1 : ∀ w ∈ wsX50, w ∈ wsX5_reckon := by decide +kernel
theorem n_Ways_reckon_2 : Cond.fieldLink RX5 19 "LacePillow$Ways" "lengths" "[I" ∈ wsX5_reckon := by decide +kernel
set_option maxHeartbeats 4000000 in
set_option maxRecDepth 100000 in
theorem c_Ways_reckon (l : Launch) (G : GT) (ad : Nat → Nat) (hI : Inj LX ad) (σ : St) {Q : St → Prop} (hV : V_Ways_reckon σ Q) : Met l yX5_reckon wsX5_reckon (rmx 3 77) (Pq vwCl G LX ad σ [.ref (ad 23), .ref (ad 16)]) (Qv vwCl G LX ad Q) 0 0 (Ax LX ad) := by
  unfold V_Ways_reckon at hV
  refine x_metv (own := RX5) (by decide) rfl rfl (Nat.le_of_ble_eq_true rfl) hI ?_
  intro p e s m args below meth c R QQ X hR hret ls hl hw
  replace hl : lv_has ls 6 [(0, .ref (ad 23)), (1, .ref (ad 16))] := hl
  obtain ⟨H, hH⟩ : ∃ z, z = s.heap := ⟨_, rfl⟩
  obtain ⟨locs, hlo⟩ : ∃ z : List Loc, z = [] := ⟨_, rfl⟩
  rw [← hH, ← hlo]
  replace hw : Wx vwCl G LX ad s H locs σ := by rw [hH, hlo]; exact hw
  clear hH hlo
  refine x_aload_n X dX5_reckon_0 rfl (lv_at hl 0 rfl) ?_
  refine x_geti X hw lx23 cX5 0 (by decide) rfl n_Ways_reckon_1 n_Ways_reckon_0 dX5_reckon_1 ?_
  refine x_if_eq X rfl 8 dX5_reckon_4 (by decide) (fun hc => ?_) (fun hc => ?_)
  · replace hV := hV.1 hc
    refine x_aload_n X dX5_reckon_8 rfl (lv_at hl 0 rfl) ?_
    refine x_aload_n X dX5_reckon_9 rfl (lv_at hl 1 rfl) ?_
    refine x_cvv X hw [.ref (ad 16)] [] (c_Ways_sortIntoLines l G ad hI σ hV) (cwV 1 X.2.2.2.2 gX5_reckon_X5_sortIntoLines rfl rfl rfl hd_Ways_sortIntoLines ⟨x_fr hR.1 rfl, x_fr hR.2 rfl⟩) lx23 cX5 rfl hl.1 rfl (Nat.le_of_ble_eq_true rfl) dX5_reckon_10 ⟨Nat.zero_le _, Nat.zero_le _⟩ (fun σ1 H locs hV hw => ?_)
    refine x_aload_n X dX5_reckon_13 rfl (lv_at hl 0 rfl) ?_
    refine x_getr X hw lx23 cX5 2 (by decide) rfl n_Ways_reckon_1 n_Ways_reckon_2 dX5_reckon_14 ?_
    refine x_iconst X dX5_reckon_17 ?_
    refine x_iald X hw lx25 k32_0 rfl (show (0 : Int) ≤ 0 ∧ (0 : Int) < 4 by decide) dX5_reckon_18 ?_
    refine x_bi (fun x2_2 ex2_2 => ?_)
    replace hV := hV x2_2 ex2_2
    clear ex2_2
    refine x_istore_n X [(2, iV x2_2), (0, .ref (ad 23)), (1, .ref (ad 16))] dX5_reckon_19 rfl hl (by decide) rfl (fun ls hl => ?_)
    refine WL1.use (Gl := fun x2_3 σ4 => ∀ (H : Heap) (locs : List Loc) (ls : Array Slot), Wx vwCl G LX ad s H locs σ4 → lv_has ls 6 [(2, iV x2_3), (0, .ref (ad 23)), (1, .ref (ad 16))] → W p l e R s m args below meth c H locs 0 0 QQ (F0 m 20 ls [])) ?_ hV H locs ls hw hl
    clear hV hw hl H locs ls
    intro bk5 x2_3 σ4 hbk5 hV H locs ls hw hl
    refine x_iload_n X dX5_reckon_20 rfl (lv_at hl 0 rfl) ?_
    refine x_if_lt X rfl 96 dX5_reckon_21 (by decide) (fun hc => ?_) (fun hc => ?_)
    · replace hV := hV.1 hc
      refine x_aload_n X dX5_reckon_96 rfl (lv_at hl 1 rfl) ?_
      refine x_iconst X dX5_reckon_97 ?_
      refine x_puti X hw lx23 cX5 0 (by decide) rfl n_Ways_reckon_1 n_Ways_reckon_0 tyX5 tyX5_ok nmX5 rfl rfl rfl dX5_reckon_98 (fun H locs σ6 hs hw => ?_)
      replace hV := hV σ6 hs
      exact hret σ6 H locs ls 101 hV hw dX5_reckon_101
    · replace hV := hV.2 hc
      refine x_aload_n X dX5_reckon_24 rfl (lv_at hl 1 rfl) ?_
      refine x_getr X hw lx23 cX5 2 (by decide) rfl n_Ways_reckon_1 n_Ways_reckon_2 dX5_reckon_25 ?_
      refine x_iconst X dX5_reckon_28 ?_
      refine x_iald X hw lx25 k32_1 rfl (show (0 : Int) ≤ 1 ∧ (1 : Int) < 4 by decide) dX5_reckon_29 ?_
      refine x_bi (fun x3_7 ex3_7 => ?_)
      replace hV := hV x3_7 ex3_7
      clear ex3_7
      refine x_istore_n X [(3, iV x3_7), (2, iV x2_3), (0, .ref (ad 23)), (1, .ref (ad 16))] dX5_reckon_30 rfl hl (by decide) rfl (fun ls hl => ?_)
      refine WL1.use (Gl := fun x3_8 σ9 => ∀ (H : Heap) (locs : List Loc) (ls : Array Slot), Wx vwCl G LX ad s H locs σ9 → lv_has ls 6 [(3, iV x3_8), (2, iV x2_3), (0, .ref (ad 23)), (1, .ref (ad 16))] → W p l e R s m args below meth c H locs 0 0 QQ (F0 m 31 ls [])) ?_ hV H locs ls hw hl
      clear hV hw hl H locs ls
      intro bk10 x3_8 σ9 hbk10 hV H locs ls hw hl
      refine x_iload_n X dX5_reckon_31 rfl (lv_at hl 0 rfl) ?_
      refine x_if_lt X rfl 90 dX5_reckon_32 (by decide) (fun hc => ?_) (fun hc => ?_)
      · replace hV := hV.1 hc
        refine x_iinc X (k := 1) (x2_3 + (-1)) [(2, iV (x2_3 + (-1))), (3, iV x3_8), (0, .ref (ad 23)), (1, .ref (ad 16))] dX5_reckon_90 hl rfl rfl (by decide) rfl (fun ls hl => ?_)
        refine x_goto X 20 dX5_reckon_93 (by decide) ?_
        exact hbk5 (x2_3 + (-1)) σ9 hV H locs ls hw (lv_sub hl [0, 2, 3] rfl)
      · replace hV := hV.2 hc
        refine x_aload_n X dX5_reckon_35 rfl (lv_at hl 2 rfl) ?_
        refine x_getr X hw lx23 cX5 2 (by decide) rfl n_Ways_reckon_1 n_Ways_reckon_2 dX5_reckon_36 ?_
        refine x_iconst X dX5_reckon_39 ?_
        refine x_iald X hw lx25 k32_2 rfl (show (0 : Int) ≤ 2 ∧ (2 : Int) < 4 by decide) dX5_reckon_40 ?_
        refine x_bi (fun x4_11 ex4_11 => ?_)
        replace hV := hV x4_11 ex4_11
        clear ex4_11
        refine x_istore X [(4, iV x4_11), (3, iV x3_8), (2, iV x2_3), (0, .ref (ad 23)), (1, .ref (ad 16))] dX5_reckon_41 hl (by decide) rfl (fun ls hl => ?_)
        refine WL1.use (Gl := fun x4_12 σ13 => ∀ (H : Heap) (locs : List Loc) (ls : Array Slot), Wx vwCl G LX ad s H locs σ13 → lv_has ls 6 [(4, iV x4_12), (3, iV x3_8), (2, iV x2_3), (0, .ref (ad 23)), (1, .ref (ad 16))] → W p l e R s m args below meth c H locs 0 0 QQ (F0 m 43 ls [])) ?_ hV H locs ls hw hl
        clear hV hw hl H locs ls
        intro bk14 x4_12 σ13 hbk14 hV H locs ls hw hl
        refine x_iload X dX5_reckon_43 (lv_at hl 0 rfl) ?_
        refine x_if_lt X rfl 84 dX5_reckon_45 (by decide) (fun hc => ?_) (fun hc => ?_)
        · replace hV := hV.1 hc
          refine x_iinc X (k := 1) (x3_8 + (-1)) [(3, iV (x3_8 + (-1))), (4, iV x4_12), (2, iV x2_3), (0, .ref (ad 23)), (1, .ref (ad 16))] dX5_reckon_84 hl rfl rfl (by decide) rfl (fun ls hl => ?_)
          refine x_goto X 31 dX5_reckon_87 (by decide) ?_
          exact hbk10 (x3_8 + (-1)) σ13 hV H locs ls hw (lv_sub hl [0, 2, 3, 4] rfl)
        · replace hV := hV.2 hc
          refine x_aload_n X dX5_reckon_48 rfl (lv_at hl 3 rfl) ?_
          refine x_getr X hw lx23 cX5 2 (by decide) rfl n_Ways_reckon_1 n_Ways_reckon_2 dX5_reckon_49 ?_
          refine x_iconst X dX5_reckon_52 ?_
          refine x_iald X hw lx25 k32_3 rfl (show (0 : Int) ≤ 3 ∧ (3 : Int) < 4 by decide) dX5_reckon_53 ?_
          refine x_bi (fun x5_15 ex5_15 => ?_)
          replace hV := hV x5_15 ex5_15
          clear ex5_15
          refine x_istore X [(5, iV x5_15), (4, iV x4_12), (3, iV x3_8), (2, iV x2_3), (0, .ref (ad 23)), (1, .ref (ad 16))] dX5_reckon_54 hl (by decide) rfl (fun ls hl => ?_)
          refine WL1.use (Gl := fun x5_16 σ17 => ∀ (H : Heap) (locs : List Loc) (ls : Array Slot), Wx vwCl G LX ad s H locs σ17 → lv_has ls 6 [(5, iV x5_16), (4, iV x4_12), (3, iV x3_8), (2, iV x2_3), (0, .ref (ad 23)), (1, .ref (ad 16))] → W p l e R s m args below meth c H locs 0 0 QQ (F0 m 56 ls [])) ?_ hV H locs ls hw hl
          clear hV hw hl H locs ls
          intro bk18 x5_16 σ17 hbk18 hV H locs ls hw hl
          refine x_iload X dX5_reckon_56 (lv_at hl 0 rfl) ?_
          refine x_if_lt X rfl 78 dX5_reckon_58 (by decide) (fun hc => ?_) (fun hc => ?_)
          · replace hV := hV.1 hc
            refine x_iinc X (k := 1) (x4_12 + (-1)) [(4, iV (x4_12 + (-1))), (5, iV x5_16), (3, iV x3_8), (2, iV x2_3), (0, .ref (ad 23)), (1, .ref (ad 16))] dX5_reckon_78 hl rfl rfl (by decide) rfl (fun ls hl => ?_)
            refine x_goto X 43 dX5_reckon_81 (by decide) ?_
            exact hbk14 (x4_12 + (-1)) σ17 hV H locs ls hw (lv_sub hl [0, 2, 3, 4, 5] rfl)
          · replace hV := hV.2 hc
            refine x_aload_n X dX5_reckon_61 rfl (lv_at hl 4 rfl) ?_
            refine x_aload_n X dX5_reckon_62 rfl (lv_at hl 5 rfl) ?_
            refine x_iload_n X dX5_reckon_63 rfl (lv_at hl 3 rfl) ?_
            refine x_iload_n X dX5_reckon_64 rfl (lv_at hl 2 rfl) ?_
            refine x_iload X dX5_reckon_65 (lv_at hl 1 rfl) ?_
            refine x_iload X dX5_reckon_67 (lv_at hl 0 rfl) ?_
            refine x_cvv X hw [.ref (ad 16), iV x2_3, iV x3_8, iV x4_12, iV x5_16] [] (c_Ways_reckonState l G ad hI σ17 x2_3 x3_8 x4_12 x5_16 hV) (cwV 5 X.2.2.2.2 gX5_reckon_X5_reckonState rfl rfl rfl hd_Ways_reckonState ⟨x_fr hR.1 rfl, x_fr hR.2 rfl⟩) lx23 cX5 rfl hl.1 rfl (Nat.le_of_ble_eq_true rfl) dX5_reckon_69 ⟨Nat.zero_le _, Nat.zero_le _⟩ (fun σ19 H locs hV hw => ?_)
            refine x_iinc X (k := 0) (x5_16 + (-1)) [(5, iV (x5_16 + (-1))), (4, iV x4_12), (3, iV x3_8), (2, iV x2_3), (0, .ref (ad 23)), (1, .ref (ad 16))] dX5_reckon_72 hl rfl rfl (by decide) rfl (fun ls hl => ?_)
            refine x_goto X 56 dX5_reckon_75 (by decide) ?_
            exact hbk18 (x5_16 + (-1)) σ19 hV H locs ls hw hl
  · replace hV := hV.2 hc
    exact hret σ H locs ls 7 hV hw dX5_reckon_7

theorem n_Ways_strideOf_0 : Cond.fieldLink RX5 23 "LacePillow$Ways" "strides" "[I" ∈ wsX5_strideOf := by decide +kernel
theorem n_Ways_strideOf_1 : ∀ w ∈ wsX50, w ∈ wsX5_strideOf := by decide +kernel
theorem n_Ways_strideOf_2 : Cond.fieldLink RX5 55 "LacePillow$Ground" "gaps" "[I" ∈ wsX5_strideOf := by decide +kernel
theorem n_Ways_strideOf_3 : ∀ w ∈ wsX00, w ∈ wsX5_strideOf := by decide +kernel
set_option maxHeartbeats 4000000 in
set_option maxRecDepth 100000 in
theorem c_Ways_strideOf (l : Launch) (G : GT) (ad : Nat → Nat) (hI : Inj LX ad) (σ : St) (a1 : Int) {Q : Int → St → Prop} (hV : V_Ways_strideOf σ a1 Q) : Met l yX5_strideOf wsX5_strideOf (rmx 0 0) (Pq vwCl G LX ad σ [.ref (ad 23), .ref (ad 16), iV a1]) (Qi vwCl G LX ad Q) 0 0 (Ax LX ad) := by
  unfold V_Ways_strideOf at hV
  refine x_meti (own := RX5) (by decide) rfl rfl (Nat.le_of_ble_eq_true rfl) hI ?_
  intro p e s m args below meth c R QQ X hR hret ls hl hw
  replace hl : lv_has ls 3 [(0, .ref (ad 23)), (1, .ref (ad 16)), (2, iV a1)] := hl
  obtain ⟨H, hH⟩ : ∃ z, z = s.heap := ⟨_, rfl⟩
  obtain ⟨locs, hlo⟩ : ∃ z : List Loc, z = [] := ⟨_, rfl⟩
  rw [← hH, ← hlo]
  replace hw : Wx vwCl G LX ad s H locs σ := by rw [hH, hlo]; exact hw
  clear hH hlo
  refine x_aload_n X dX5_strideOf_0 rfl (lv_at hl 0 rfl) ?_
  refine x_getr X hw lx23 cX5 3 (by decide) rfl n_Ways_strideOf_1 n_Ways_strideOf_0 dX5_strideOf_1 ?_
  refine x_aload_n X dX5_strideOf_4 rfl (lv_at hl 1 rfl) ?_
  refine x_getr X hw lx16 cX0 3 (by decide) rfl n_Ways_strideOf_3 n_Ways_strideOf_2 dX5_strideOf_5 ?_
  refine x_iload_n X dX5_strideOf_8 rfl (lv_at hl 2 rfl) ?_
  obtain ⟨hi, hV⟩ := hV
  refine x_iald X hw lx18 rfl rfl hi dX5_strideOf_9 ?_
  refine x_iconst X dX5_strideOf_10 ?_
  refine x_idiv X dX5_strideOf_11 (by decide) ?_
  obtain ⟨hi, hV⟩ := hV
  refine x_iald X hw lx26 rfl rfl hi dX5_strideOf_12 ?_
  exact hret (σ 26 (i32 (idv (σ 18 (i32 a1)) 2))) σ H locs ls 13 hV hw dX5_strideOf_13

theorem n_Ways_stitchOf_0 : Cond.fieldLink RX5 49 "LacePillow$Ground" "size" "I" ∈ wsX5_stitchOf := by decide +kernel
theorem n_Ways_stitchOf_1 : ∀ w ∈ wsX00, w ∈ wsX5_stitchOf := by decide +kernel
set_option maxHeartbeats 4000000 in
set_option maxRecDepth 100000 in
theorem c_Ways_stitchOf (l : Launch) (G : GT) (ad : Nat → Nat) (hI : Inj LX ad) (σ : St) (a1 : Int) (a2 : Int) {Q : Int → St → Prop} (hV : V_Ways_stitchOf σ a1 a2 Q) : Met l yX5_stitchOf wsX5_stitchOf (rmx 1 23) (Pq vwCl G LX ad σ [.ref (ad 23), .ref (ad 16), lV a1, iV a2]) (Qi vwCl G LX ad Q) 0 0 (Ax LX ad) := by
  unfold V_Ways_stitchOf at hV
  refine x_meti (own := RX5) (by decide) rfl rfl (Nat.le_of_ble_eq_true rfl) hI ?_
  intro p e s m args below meth c R QQ X hR hret ls hl hw
  replace hl : lv_has ls 15 [(0, .ref (ad 23)), (1, .ref (ad 16)), (2, lV a1), (4, iV a2)] := hl
  obtain ⟨H, hH⟩ : ∃ z, z = s.heap := ⟨_, rfl⟩
  obtain ⟨locs, hlo⟩ : ∃ z : List Loc, z = [] := ⟨_, rfl⟩
  rw [← hH, ← hlo]
  replace hw : Wx vwCl G LX ad s H locs σ := by rw [hH, hlo]; exact hw
  clear hH hlo
  refine x_lload_n X dX5_stitchOf_0 rfl (lv_at hl 2 rfl) ?_
  refine x_lstore X [(5, lV a1), (0, .ref (ad 23)), (1, .ref (ad 16)), (2, lV a1), (4, iV a2)] dX5_stitchOf_1 hl (by decide) rfl (fun ls hl => ?_)
  refine x_lconst X 0 dX5_stitchOf_3 rfl ?_
  refine x_lstore X [(7, lV 0), (5, lV a1), (0, .ref (ad 23)), (1, .ref (ad 16)), (2, lV a1), (4, iV a2)] dX5_stitchOf_4 hl (by decide) rfl (fun ls hl => ?_)
  refine x_iconst X dX5_stitchOf_6 ?_
  refine x_istore X [(9, iV 0), (7, lV 0), (5, lV a1), (0, .ref (ad 23)), (1, .ref (ad 16)), (2, lV a1), (4, iV a2)] dX5_stitchOf_7 hl (by decide) rfl (fun ls hl => ?_)
  refine x_iconst X dX5_stitchOf_9 ?_
  refine x_istore X [(10, iV 0), (9, iV 0), (7, lV 0), (5, lV a1), (0, .ref (ad 23)), (1, .ref (ad 16)), (2, lV a1), (4, iV a2)] dX5_stitchOf_10 hl (by decide) rfl (fun ls hl => ?_)
  refine x_iconst X dX5_stitchOf_12 ?_
  refine x_istore X [(11, iV 0), (10, iV 0), (9, iV 0), (7, lV 0), (5, lV a1), (0, .ref (ad 23)), (1, .ref (ad 16)), (2, lV a1), (4, iV a2)] dX5_stitchOf_13 hl (by decide) rfl (fun ls hl => ?_)
  refine WL5.use (Gl := fun x11_1 x10_2 x9_3 x7_4 x5_5 σ6 => ∀ (H : Heap) (locs : List Loc) (ls : Array Slot), Wx vwCl G LX ad s H locs σ6 → lv_has ls 15 [(11, iV x11_1), (10, iV x10_2), (9, iV x9_3), (7, lV x7_4), (5, lV x5_5), (0, .ref (ad 23)), (1, .ref (ad 16)), (4, iV a2)] → W p l e R s m args below meth c H locs 0 0 QQ (F0 m 15 ls [])) ?_ hV H locs ls hw (lv_sub hl [0, 1, 2, 3, 4, 5, 6, 8] rfl)
  clear hV hw hl H locs ls
  intro bk7 x11_1 x10_2 x9_3 x7_4 x5_5 σ6 hbk7 hV H locs ls hw hl
  refine x_iload X dX5_stitchOf_15 (lv_at hl 0 rfl) ?_
  refine x_iload X dX5_stitchOf_17 (lv_at hl 7 rfl) ?_
  refine x_icmp_gt X rfl rfl 116 dX5_stitchOf_19 (by decide) (fun hc => ?_) (fun hc => ?_)
  · replace hV := hV.1 hc
    refine x_iload X dX5_stitchOf_116 (lv_at hl 1 rfl) ?_
    exact hret x10_2 σ6 H locs ls 118 hV hw dX5_stitchOf_118
  · replace hV := hV.2 hc
    refine x_iconst X dX5_stitchOf_22 ?_
    refine x_istore X [(12, iV 0), (11, iV x11_1), (10, iV x10_2), (9, iV x9_3), (7, lV x7_4), (5, lV x5_5), (0, .ref (ad 23)), (1, .ref (ad 16)), (4, iV a2)] dX5_stitchOf_23 hl (by decide) rfl (fun ls hl => ?_)
    refine WL3.use (Gl := fun x12_8 x10_9 x5_10 σ11 => ∀ (H : Heap) (locs : List Loc) (ls : Array Slot), Wx vwCl G LX ad s H locs σ11 → lv_has ls 15 [(12, iV x12_8), (11, iV x11_1), (10, iV x10_9), (9, iV x9_3), (7, lV x7_4), (5, lV x5_10), (0, .ref (ad 23)), (1, .ref (ad 16)), (4, iV a2)] → W p l e R s m args below meth c H locs 0 0 QQ (F0 m 25 ls [])) ?_ hV H locs ls hw hl
    clear hV hw hl H locs ls
    intro bk12 x12_8 x10_9 x5_10 σ11 hbk12 hV H locs ls hw hl
    refine x_iload X dX5_stitchOf_25 (lv_at hl 0 rfl) ?_
    refine x_aload_n X dX5_stitchOf_27 rfl (lv_at hl 7 rfl) ?_
    refine x_geti X hw lx16 cX0 0 (by decide) rfl n_Ways_stitchOf_1 n_Ways_stitchOf_0 dX5_stitchOf_28 ?_
    have hJ89 : ∀ (x10_13 : Int) (σ14 : St) (H : Heap) (locs : List Loc) (ls : Array Slot), J_Ways_stitchOf_89 x11_1 x9_3 x7_4 bk7 x5_10 x10_13 σ14 → Wx vwCl G LX ad s H locs σ14 → lv_has ls 15 [(11, iV x11_1), (10, iV x10_13), (9, iV x9_3), (7, lV x7_4), (5, lV x5_10), (0, .ref (ad 23)), (1, .ref (ad 16)), (4, iV a2)] → W p l e R s m args below meth c H locs 0 0 QQ (F0 m 89 ls []) := by
      intro x10_13 σ14 H locs ls hV hw hl
      unfold J_Ways_stitchOf_89 at hV
      refine x_lload X dX5_stitchOf_89 (lv_at hl 3 rfl) ?_
      refine x_lconst X 1 dX5_stitchOf_91 rfl ?_
      refine x_iload X dX5_stitchOf_92 (lv_at hl 1 rfl) ?_
      refine x_lshl X dX5_stitchOf_94 ?_
      refine x_lor X dX5_stitchOf_95 ?_
      refine x_bl (fun x7_15 ex7_15 => ?_)
      replace hV := hV x7_15 ex7_15
      clear ex7_15
      refine x_lstore X [(7, lV x7_15), (11, iV x11_1), (10, iV x10_13), (9, iV x9_3), (5, lV x5_10), (0, .ref (ad 23)), (1, .ref (ad 16)), (4, iV a2)] dX5_stitchOf_96 hl (by decide) rfl (fun ls hl => ?_)
      refine x_iload X dX5_stitchOf_98 (lv_at hl 3 rfl) ?_
      refine x_aload_n X dX5_stitchOf_100 rfl (lv_at hl 5 rfl) ?_
      refine x_aload_n X dX5_stitchOf_101 rfl (lv_at hl 6 rfl) ?_
      refine x_iload X dX5_stitchOf_102 (lv_at hl 2 rfl) ?_
      refine x_cvi X hw [.ref (ad 16), iV x10_13] [iV x9_3] (c_Ways_strideOf l G ad hI σ14 x10_13 hV) (cwV 2 X.2.2.2.2 gX5_stitchOf_X5_strideOf rfl rfl rfl hd_Ways_strideOf ⟨x_fr hR.1 rfl, x_fr hR.2 rfl⟩) lx23 cX5 rfl hl.1 rfl (Nat.le_of_ble_eq_true rfl) dX5_stitchOf_104 ⟨Nat.zero_le _, Nat.zero_le _⟩ (fun r17 σ16 H locs hV hw => ?_)
      refine x_iadd X dX5_stitchOf_107 ?_
      refine x_bi (fun x9_18 ex9_18 => ?_)
      replace hV := hV x9_18 ex9_18
      clear ex9_18
      refine x_istore X [(9, iV x9_18), (7, lV x7_15), (11, iV x11_1), (10, iV x10_13), (5, lV x5_10), (0, .ref (ad 23)), (1, .ref (ad 16)), (4, iV a2)] dX5_stitchOf_108 hl (by decide) rfl (fun ls hl => ?_)
      refine x_iinc X (k := 2) (x11_1 + 1) [(11, iV (x11_1 + 1)), (9, iV x9_18), (7, lV x7_15), (10, iV x10_13), (5, lV x5_10), (0, .ref (ad 23)), (1, .ref (ad 16)), (4, iV a2)] dX5_stitchOf_110 hl rfl rfl (by decide) rfl (fun ls hl => ?_)
      refine x_goto X 15 dX5_stitchOf_113 (by decide) ?_
      exact hbk7 (x11_1 + 1) x10_13 x9_18 x7_15 x5_10 σ16 hV H locs ls hw (lv_sub hl [0, 3, 1, 2, 4, 5, 6, 7] rfl)
    refine x_icmp_ge X rfl rfl 89 dX5_stitchOf_31 (by decide) (fun hc => ?_) (fun hc => ?_)
    · replace hV := hV.1 hc
      exact hJ89 x10_9 σ11 H locs ls hV hw (lv_sub hl [1, 2, 3, 4, 5, 6, 7, 8] rfl)
    · replace hV := hV.2 hc
      refine x_aload_n X dX5_stitchOf_34 rfl (lv_at hl 7 rfl) ?_
      refine x_iload X dX5_stitchOf_35 (lv_at hl 0 rfl) ?_
      refine x_lload X dX5_stitchOf_37 (lv_at hl 4 rfl) ?_
      refine x_cvz X hw [iV x12_8, lV x7_4] [] (c_Ground_isFree l G ad hI σ11 x12_8 x7_4 hV) (cwV 2 X.2.2.2.2 gX5_stitchOf_X0_isFree rfl rfl rfl hd_Ground_isFree ⟨x_fr hR.1 rfl, x_fr hR.2 rfl⟩) lx16 cX0 rfl hl.1 rfl (Nat.le_of_ble_eq_true rfl) dX5_stitchOf_39 ⟨Nat.zero_le _, Nat.zero_le _⟩ (fun r20 σ19 H locs hr20 hV hw => ?_)
      refine x_if_eq X rfl 83 dX5_stitchOf_42 (by decide) (fun hc => ?_) (fun hc => ?_)
      · replace hV := hV.1 hc
        refine x_iinc X (k := 0) (x12_8 + 1) [(12, iV (x12_8 + 1)), (11, iV x11_1), (10, iV x10_9), (9, iV x9_3), (7, lV x7_4), (5, lV x5_10), (0, .ref (ad 23)), (1, .ref (ad 16)), (4, iV a2)] dX5_stitchOf_83 hl rfl rfl (by decide) rfl (fun ls hl => ?_)
        refine x_goto X 25 dX5_stitchOf_86 (by decide) ?_
        exact hbk12 (x12_8 + 1) x10_9 x5_10 σ19 hV H locs ls hw hl
      · replace hV := hV.2 hc
        refine x_iload X dX5_stitchOf_45 (lv_at hl 0 rfl) ?_
        refine x_istore X [(10, iV x12_8), (12, iV x12_8), (11, iV x11_1), (9, iV x9_3), (7, lV x7_4), (5, lV x5_10), (0, .ref (ad 23)), (1, .ref (ad 16)), (4, iV a2)] dX5_stitchOf_47 hl (by decide) rfl (fun ls hl => ?_)
        refine x_aload_n X dX5_stitchOf_49 rfl (lv_at hl 6 rfl) ?_
        refine x_iload X dX5_stitchOf_50 (lv_at hl 3 rfl) ?_
        refine x_aload_n X dX5_stitchOf_52 rfl (lv_at hl 6 rfl) ?_
        refine x_aload_n X dX5_stitchOf_53 rfl (lv_at hl 7 rfl) ?_
        refine x_iload X dX5_stitchOf_54 (lv_at hl 1 rfl) ?_
        refine x_cvi X hw [.ref (ad 16), iV x12_8] [iV x9_3, .ref (ad 23)] (c_Ways_strideOf l G ad hI σ19 x12_8 hV) (cwV 2 X.2.2.2.2 gX5_stitchOf_X5_strideOf rfl rfl rfl hd_Ways_strideOf ⟨x_fr hR.1 rfl, x_fr hR.2 rfl⟩) lx23 cX5 rfl hl.1 rfl (Nat.le_of_ble_eq_true rfl) dX5_stitchOf_56 ⟨Nat.zero_le _, Nat.zero_le _⟩ (fun r22 σ21 H locs hV hw => ?_)
        refine x_iadd X dX5_stitchOf_59 ?_
        refine x_cvl X hw [iV (x9_3 + r22)] [] (c_Ways_countOf l G ad hI σ21 (x9_3 + r22) hV) (cwV 1 X.2.2.2.2 gX5_stitchOf_X5_countOf rfl rfl rfl hd_Ways_countOf ⟨x_fr hR.1 rfl, x_fr hR.2 rfl⟩) lx23 cX5 rfl hl.1 rfl (Nat.le_of_ble_eq_true rfl) dX5_stitchOf_60 ⟨Nat.zero_le _, Nat.zero_le _⟩ (fun r24 σ23 H locs hV hw => ?_)
        refine x_lstore X [(13, lV r24), (10, iV x12_8), (12, iV x12_8), (11, iV x11_1), (9, iV x9_3), (7, lV x7_4), (5, lV x5_10), (0, .ref (ad 23)), (1, .ref (ad 16)), (4, iV a2)] dX5_stitchOf_63 hl (by decide) rfl (fun ls hl => ?_)
        refine x_lload X dX5_stitchOf_65 (lv_at hl 6 rfl) ?_
        refine x_lload X dX5_stitchOf_67 (lv_at hl 0 rfl) ?_
        refine x_lcmp_ge X rfl rfl 76 dX5_stitchOf_69 dX5_stitchOf_70 (by decide) (fun hc => ?_) (fun hc => ?_)
        · replace hV := hV.1 hc
          refine x_lload X dX5_stitchOf_76 (lv_at hl 6 rfl) ?_
          refine x_lload X dX5_stitchOf_78 (lv_at hl 0 rfl) ?_
          refine x_lsub X dX5_stitchOf_80 ?_
          refine x_bl (fun x5_25 ex5_25 => ?_)
          replace hV := hV x5_25 ex5_25
          clear ex5_25
          refine x_lstore X [(5, lV x5_25), (13, lV r24), (10, iV x12_8), (12, iV x12_8), (11, iV x11_1), (9, iV x9_3), (7, lV x7_4), (0, .ref (ad 23)), (1, .ref (ad 16)), (4, iV a2)] dX5_stitchOf_81 hl (by decide) rfl (fun ls hl => ?_)
          refine x_iinc X (k := 3) (x12_8 + 1) [(12, iV (x12_8 + 1)), (5, lV x5_25), (13, lV r24), (10, iV x12_8), (11, iV x11_1), (9, iV x9_3), (7, lV x7_4), (0, .ref (ad 23)), (1, .ref (ad 16)), (4, iV a2)] dX5_stitchOf_83 hl rfl rfl (by decide) rfl (fun ls hl => ?_)
          refine x_goto X 25 dX5_stitchOf_86 (by decide) ?_
          exact hbk12 (x12_8 + 1) x12_8 x5_25 σ23 hV H locs ls hw (lv_sub hl [0, 4, 3, 5, 6, 1, 7, 8, 9] rfl)
        · replace hV := hV.2 hc
          refine x_goto X 89 dX5_stitchOf_73 (by decide) ?_
          exact hJ89 x12_8 σ23 H locs ls hV hw (lv_sub hl [3, 1, 4, 5, 6, 7, 8, 9] rfl)

theorem n_Ways_numberOf_0 : Cond.fieldLink RX5 84 "LacePillow$Sheet" "size" "I" ∈ wsX5_numberOf := by decide +kernel
theorem n_Ways_numberOf_1 : ∀ w ∈ wsX30, w ∈ wsX5_numberOf := by decide +kernel
theorem n_Ways_numberOf_2 : Cond.fieldLink RX5 49 "LacePillow$Ground" "size" "I" ∈ wsX5_numberOf := by decide +kernel
theorem n_Ways_numberOf_3 : ∀ w ∈ wsX00, w ∈ wsX5_numberOf := by decide +kernel
theorem n_Ways_numberOf_4 : Cond.fieldLink RX5 89 "LacePillow$Sheet" "numbers" "[J" ∈ wsX5_numberOf := by decide +kernel
theorem n_Ways_numberOf_5 : Cond.constantLong RX5 87 (-1) ∈ wsX5_numberOf := by decide +kernel
set_option maxHeartbeats 4000000 in
set_option maxRecDepth 100000 in
theorem c_Ways_numberOf (l : Launch) (G : GT) (ad : Nat → Nat) (hI : Inj LX ad) (sh : Nat) (hsh : isSheet sh) (σ : St) {Q : Int → St → Prop} (hV : V_Ways_numberOf sh σ Q) : Met l yX5_numberOf wsX5_numberOf (rmx 1 23) (Pq vwCl G LX ad σ [.ref (ad 23), .ref (ad 16), .ref (ad sh)]) (Ql vwCl G LX ad Q) 0 0 (Ax LX ad) := by
  unfold V_Ways_numberOf at hV
  refine x_metl (own := RX5) (by decide) rfl rfl (Nat.le_of_ble_eq_true rfl) hI ?_
  intro p e s m args below meth c R QQ X hR hret ls hl hw
  replace hl : lv_has ls 13 [(0, .ref (ad 23)), (1, .ref (ad 16)), (2, .ref (ad sh))] := hl
  obtain ⟨H, hH⟩ : ∃ z, z = s.heap := ⟨_, rfl⟩
  obtain ⟨locs, hlo⟩ : ∃ z : List Loc, z = [] := ⟨_, rfl⟩
  rw [← hH, ← hlo]
  replace hw : Wx vwCl G LX ad s H locs σ := by rw [hH, hlo]; exact hw
  clear hH hlo
  refine x_aload_n X dX5_numberOf_0 rfl (lv_at hl 2 rfl) ?_
  refine x_geti X hw (lfSheet hsh) cX3 1 (by decide) rfl n_Ways_numberOf_1 n_Ways_numberOf_0 dX5_numberOf_1 ?_
  refine x_aload_n X dX5_numberOf_4 rfl (lv_at hl 1 rfl) ?_
  refine x_geti X hw lx16 cX0 0 (by decide) rfl n_Ways_numberOf_3 n_Ways_numberOf_2 dX5_numberOf_5 ?_
  refine x_icmp_eq X rfl rfl 15 dX5_numberOf_8 (by decide) (fun hc => ?_) (fun hc => ?_)
  · replace hV := hV.1 hc
    refine x_lconst X 0 dX5_numberOf_15 rfl ?_
    refine x_lstore_n X [(3, lV 0), (0, .ref (ad 23)), (1, .ref (ad 16)), (2, .ref (ad sh))] dX5_numberOf_16 rfl hl (by decide) rfl (fun ls hl => ?_)
    refine x_lconst X 0 dX5_numberOf_17 rfl ?_
    refine x_lstore X [(5, lV 0), (3, lV 0), (0, .ref (ad 23)), (1, .ref (ad 16)), (2, .ref (ad sh))] dX5_numberOf_18 hl (by decide) rfl (fun ls hl => ?_)
    refine x_iconst X dX5_numberOf_20 ?_
    refine x_istore X [(7, iV 0), (5, lV 0), (3, lV 0), (0, .ref (ad 23)), (1, .ref (ad 16)), (2, .ref (ad sh))] dX5_numberOf_21 hl (by decide) rfl (fun ls hl => ?_)
    refine x_iconst X dX5_numberOf_23 ?_
    refine x_istore X [(8, iV 0), (7, iV 0), (5, lV 0), (3, lV 0), (0, .ref (ad 23)), (1, .ref (ad 16)), (2, .ref (ad sh))] dX5_numberOf_24 hl (by decide) rfl (fun ls hl => ?_)
    refine WL4.use (Gl := fun x8_1 x7_2 x5_3 x3_4 σ5 => ∀ (H : Heap) (locs : List Loc) (ls : Array Slot), Wx vwCl G LX ad s H locs σ5 → lv_has ls 13 [(8, iV x8_1), (7, iV x7_2), (5, lV x5_3), (3, lV x3_4), (0, .ref (ad 23)), (1, .ref (ad 16)), (2, .ref (ad sh))] → W p l e R s m args below meth c H locs 0 0 QQ (F0 m 26 ls [])) ?_ hV H locs ls hw hl
    clear hV hw hl H locs ls
    intro bk6 x8_1 x7_2 x5_3 x3_4 σ5 hbk6 hV H locs ls hw hl
    refine x_iload X dX5_numberOf_26 (lv_at hl 0 rfl) ?_
    refine x_aload_n X dX5_numberOf_28 rfl (lv_at hl 6 rfl) ?_
    refine x_geti X hw (lfSheet hsh) cX3 1 (by decide) rfl n_Ways_numberOf_1 n_Ways_numberOf_0 dX5_numberOf_29 ?_
    refine x_icmp_ge X rfl rfl 154 dX5_numberOf_32 (by decide) (fun hc => ?_) (fun hc => ?_)
    · replace hV := hV.1 hc
      refine x_lload_n X dX5_numberOf_154 rfl (lv_at hl 3 rfl) ?_
      exact hret x3_4 σ5 H locs ls 155 hV hw dX5_numberOf_155
    · replace hV := hV.2 hc
      refine x_aload_n X dX5_numberOf_35 rfl (lv_at hl 6 rfl) ?_
      refine x_getr X hw (lfSheet hsh) cX3 2 (by decide) rfl n_Ways_numberOf_1 n_Ways_numberOf_4 dX5_numberOf_36 ?_
      refine x_iload X dX5_numberOf_39 (lv_at hl 0 rfl) ?_
      obtain ⟨hi, hV⟩ := hV
      refine x_lald X hw (lfSheet1 hsh) rfl rfl hi dX5_numberOf_41 ?_
      refine x_bl (fun x9_7 ex9_7 => ?_)
      replace hV := hV x9_7 ex9_7
      clear ex9_7
      refine x_lstore X [(9, lV x9_7), (8, iV x8_1), (7, iV x7_2), (5, lV x5_3), (3, lV x3_4), (0, .ref (ad 23)), (1, .ref (ad 16)), (2, .ref (ad sh))] dX5_numberOf_42 hl (by decide) rfl (fun ls hl => ?_)
      refine x_lload X dX5_numberOf_44 (lv_at hl 0 rfl) ?_
      refine x_lconst X 0 dX5_numberOf_46 rfl ?_
      refine x_lcmp_lt X rfl k64_0 74 dX5_numberOf_47 dX5_numberOf_48 (by decide) (fun hc => ?_) (fun hc => ?_)
      · replace hV := hV.1 hc
        refine x_ldc2 X (-1) n_Ways_numberOf_5 (by decide) dX5_numberOf_74 ?_
        exact hret (-1) σ5 H locs ls 77 hV hw dX5_numberOf_77
      · replace hV := hV.2 hc
        refine x_lload X dX5_numberOf_51 (lv_at hl 0 rfl) ?_
        refine x_aload_n X dX5_numberOf_53 rfl (lv_at hl 6 rfl) ?_
        refine x_geti X hw lx16 cX0 0 (by decide) rfl n_Ways_numberOf_3 n_Ways_numberOf_2 dX5_numberOf_54 ?_
        refine x_i2l X dX5_numberOf_57 ?_
        refine x_lcmp_ge X rfl (i64_i32 _) 74 dX5_numberOf_58 dX5_numberOf_59 (by decide) (fun hc => ?_) (fun hc => ?_)
        · replace hV := hV.1 hc
          refine x_ldc2 X (-1) n_Ways_numberOf_5 (by decide) dX5_numberOf_74 ?_
          exact hret (-1) σ5 H locs ls 77 hV hw dX5_numberOf_77
        · replace hV := hV.2 hc
          refine x_aload_n X dX5_numberOf_62 rfl (lv_at hl 6 rfl) ?_
          refine x_lload X dX5_numberOf_63 (lv_at hl 0 rfl) ?_
          refine x_l2i X dX5_numberOf_65 ?_
          refine x_lload X dX5_numberOf_66 (lv_at hl 3 rfl) ?_
          refine x_cvz X hw [iV x9_7, lV x5_3] [] (c_Ground_isFree l G ad hI σ5 x9_7 x5_3 hV) (cwV 2 X.2.2.2.2 gX5_numberOf_X0_isFree rfl rfl rfl hd_Ground_isFree ⟨x_fr hR.1 rfl, x_fr hR.2 rfl⟩) lx16 cX0 rfl hl.1 rfl (Nat.le_of_ble_eq_true rfl) dX5_numberOf_68 ⟨Nat.zero_le _, Nat.zero_le _⟩ (fun r9 σ8 H locs hr9 hV hw => ?_)
          refine x_if_ne X rfl 78 dX5_numberOf_71 (by decide) (fun hc => ?_) (fun hc => ?_)
          · replace hV := hV.1 hc
            refine x_lload X dX5_numberOf_78 (lv_at hl 0 rfl) ?_
            refine x_l2i X dX5_numberOf_80 ?_
            refine x_istore X [(11, iV x9_7), (9, lV x9_7), (8, iV x8_1), (7, iV x7_2), (5, lV x5_3), (3, lV x3_4), (0, .ref (ad 23)), (1, .ref (ad 16)), (2, .ref (ad sh))] dX5_numberOf_81 hl (by decide) rfl (fun ls hl => ?_)
            refine x_iconst X dX5_numberOf_83 ?_
            refine x_istore X [(12, iV 0), (11, iV x9_7), (9, lV x9_7), (8, iV x8_1), (7, iV x7_2), (5, lV x5_3), (3, lV x3_4), (0, .ref (ad 23)), (1, .ref (ad 16)), (2, .ref (ad sh))] dX5_numberOf_84 hl (by decide) rfl (fun ls hl => ?_)
            refine WL2.use (Gl := fun x12_10 x3_11 σ12 => ∀ (H : Heap) (locs : List Loc) (ls : Array Slot), Wx vwCl G LX ad s H locs σ12 → lv_has ls 13 [(12, iV x12_10), (11, iV x9_7), (8, iV x8_1), (7, iV x7_2), (5, lV x5_3), (3, lV x3_11), (0, .ref (ad 23)), (1, .ref (ad 16)), (2, .ref (ad sh))] → W p l e R s m args below meth c H locs 0 0 QQ (F0 m 86 ls [])) ?_ hV H locs ls hw (lv_sub hl [0, 1, 3, 4, 5, 6, 7, 8, 9] rfl)
            clear hV hw hl H locs ls
            intro bk13 x12_10 x3_11 σ12 hbk13 hV H locs ls hw hl
            refine x_iload X dX5_numberOf_86 (lv_at hl 0 rfl) ?_
            refine x_iload X dX5_numberOf_88 (lv_at hl 1 rfl) ?_
            refine x_icmp_ge X rfl rfl 127 dX5_numberOf_90 (by decide) (fun hc => ?_) (fun hc => ?_)
            · replace hV := hV.1 hc
              refine x_lload X dX5_numberOf_127 (lv_at hl 4 rfl) ?_
              refine x_lconst X 1 dX5_numberOf_129 rfl ?_
              refine x_iload X dX5_numberOf_130 (lv_at hl 1 rfl) ?_
              refine x_lshl X dX5_numberOf_132 ?_
              refine x_lor X dX5_numberOf_133 ?_
              refine x_bl (fun x5_14 ex5_14 => ?_)
              replace hV := hV x5_14 ex5_14
              clear ex5_14
              refine x_lstore X [(5, lV x5_14), (12, iV x12_10), (11, iV x9_7), (8, iV x8_1), (7, iV x7_2), (3, lV x3_11), (0, .ref (ad 23)), (1, .ref (ad 16)), (2, .ref (ad sh))] dX5_numberOf_134 hl (by decide) rfl (fun ls hl => ?_)
              refine x_iload X dX5_numberOf_136 (lv_at hl 4 rfl) ?_
              refine x_aload_n X dX5_numberOf_138 rfl (lv_at hl 6 rfl) ?_
              refine x_aload_n X dX5_numberOf_139 rfl (lv_at hl 7 rfl) ?_
              refine x_iload X dX5_numberOf_140 (lv_at hl 2 rfl) ?_
              refine x_cvi X hw [.ref (ad 16), iV x9_7] [iV x7_2] (c_Ways_strideOf l G ad hI σ12 x9_7 hV) (cwV 2 X.2.2.2.2 gX5_numberOf_X5_strideOf rfl rfl rfl hd_Ways_strideOf ⟨x_fr hR.1 rfl, x_fr hR.2 rfl⟩) lx23 cX5 rfl hl.1 rfl (Nat.le_of_ble_eq_true rfl) dX5_numberOf_142 ⟨Nat.zero_le _, Nat.zero_le _⟩ (fun r16 σ15 H locs hV hw => ?_)
              refine x_iadd X dX5_numberOf_145 ?_
              refine x_bi (fun x7_17 ex7_17 => ?_)
              replace hV := hV x7_17 ex7_17
              clear ex7_17
              refine x_istore X [(7, iV x7_17), (5, lV x5_14), (12, iV x12_10), (11, iV x9_7), (8, iV x8_1), (3, lV x3_11), (0, .ref (ad 23)), (1, .ref (ad 16)), (2, .ref (ad sh))] dX5_numberOf_146 hl (by decide) rfl (fun ls hl => ?_)
              refine x_iinc X (k := 4) (x8_1 + 1) [(8, iV (x8_1 + 1)), (7, iV x7_17), (5, lV x5_14), (12, iV x12_10), (11, iV x9_7), (3, lV x3_11), (0, .ref (ad 23)), (1, .ref (ad 16)), (2, .ref (ad sh))] dX5_numberOf_148 hl rfl rfl (by decide) rfl (fun ls hl => ?_)
              refine x_goto X 26 dX5_numberOf_151 (by decide) ?_
              exact hbk6 (x8_1 + 1) x7_17 x5_14 x3_11 σ15 hV H locs ls hw (lv_sub hl [0, 1, 2, 5, 6, 7, 8] rfl)
            · replace hV := hV.2 hc
              refine x_aload_n X dX5_numberOf_93 rfl (lv_at hl 7 rfl) ?_
              refine x_iload X dX5_numberOf_94 (lv_at hl 0 rfl) ?_
              refine x_lload X dX5_numberOf_96 (lv_at hl 4 rfl) ?_
              refine x_cvz X hw [iV x12_10, lV x5_3] [] (c_Ground_isFree l G ad hI σ12 x12_10 x5_3 hV) (cwV 2 X.2.2.2.2 gX5_numberOf_X0_isFree rfl rfl rfl hd_Ground_isFree ⟨x_fr hR.1 rfl, x_fr hR.2 rfl⟩) lx16 cX0 rfl hl.1 rfl (Nat.le_of_ble_eq_true rfl) dX5_numberOf_98 ⟨Nat.zero_le _, Nat.zero_le _⟩ (fun r19 σ18 H locs hr19 hV hw => ?_)
              refine x_if_eq X rfl 121 dX5_numberOf_101 (by decide) (fun hc => ?_) (fun hc => ?_)
              · replace hV := hV.1 hc
                refine x_iinc X (k := 0) (x12_10 + 1) [(12, iV (x12_10 + 1)), (11, iV x9_7), (8, iV x8_1), (7, iV x7_2), (5, lV x5_3), (3, lV x3_11), (0, .ref (ad 23)), (1, .ref (ad 16)), (2, .ref (ad sh))] dX5_numberOf_121 hl rfl rfl (by decide) rfl (fun ls hl => ?_)
                refine x_goto X 86 dX5_numberOf_124 (by decide) ?_
                exact hbk13 (x12_10 + 1) x3_11 σ18 hV H locs ls hw hl
              · replace hV := hV.2 hc
                refine x_lload_n X dX5_numberOf_104 rfl (lv_at hl 5 rfl) ?_
                refine x_aload_n X dX5_numberOf_105 rfl (lv_at hl 6 rfl) ?_
                refine x_iload X dX5_numberOf_106 (lv_at hl 3 rfl) ?_
                refine x_aload_n X dX5_numberOf_108 rfl (lv_at hl 6 rfl) ?_
                refine x_aload_n X dX5_numberOf_109 rfl (lv_at hl 7 rfl) ?_
                refine x_iload X dX5_numberOf_110 (lv_at hl 0 rfl) ?_
                refine x_cvi X hw [.ref (ad 16), iV x12_10] [iV x7_2, .ref (ad 23), lV x3_11] (c_Ways_strideOf l G ad hI σ18 x12_10 hV) (cwV 2 X.2.2.2.2 gX5_numberOf_X5_strideOf rfl rfl rfl hd_Ways_strideOf ⟨x_fr hR.1 rfl, x_fr hR.2 rfl⟩) lx23 cX5 rfl hl.1 rfl (Nat.le_of_ble_eq_true rfl) dX5_numberOf_112 ⟨Nat.zero_le _, Nat.zero_le _⟩ (fun r21 σ20 H locs hV hw => ?_)
                refine x_iadd X dX5_numberOf_115 ?_
                refine x_cvl X hw [iV (x7_2 + r21)] [lV x3_11] (c_Ways_countOf l G ad hI σ20 (x7_2 + r21) hV) (cwV 1 X.2.2.2.2 gX5_numberOf_X5_countOf rfl rfl rfl hd_Ways_countOf ⟨x_fr hR.1 rfl, x_fr hR.2 rfl⟩) lx23 cX5 rfl hl.1 rfl (Nat.le_of_ble_eq_true rfl) dX5_numberOf_116 ⟨Nat.zero_le _, Nat.zero_le _⟩ (fun r23 σ22 H locs hV hw => ?_)
                refine x_ladd X dX5_numberOf_119 ?_
                refine x_bl (fun x3_24 ex3_24 => ?_)
                replace hV := hV x3_24 ex3_24
                clear ex3_24
                refine x_lstore_n X [(3, lV x3_24), (12, iV x12_10), (11, iV x9_7), (8, iV x8_1), (7, iV x7_2), (5, lV x5_3), (0, .ref (ad 23)), (1, .ref (ad 16)), (2, .ref (ad sh))] dX5_numberOf_120 rfl hl (by decide) rfl (fun ls hl => ?_)
                refine x_iinc X (k := 1) (x12_10 + 1) [(12, iV (x12_10 + 1)), (3, lV x3_24), (11, iV x9_7), (8, iV x8_1), (7, iV x7_2), (5, lV x5_3), (0, .ref (ad 23)), (1, .ref (ad 16)), (2, .ref (ad sh))] dX5_numberOf_121 hl rfl rfl (by decide) rfl (fun ls hl => ?_)
                refine x_goto X 86 dX5_numberOf_124 (by decide) ?_
                exact hbk13 (x12_10 + 1) x3_24 σ22 hV H locs ls hw (lv_sub hl [0, 2, 3, 4, 5, 1, 6, 7, 8] rfl)
          · replace hV := hV.2 hc
            refine x_ldc2 X (-1) n_Ways_numberOf_5 (by decide) dX5_numberOf_74 ?_
            exact hret (-1) σ8 H locs ls 77 hV hw dX5_numberOf_77
  · replace hV := hV.2 hc
    refine x_ldc2 X (-1) n_Ways_numberOf_5 (by decide) dX5_numberOf_11 ?_
    exact hret (-1) σ H locs ls 14 hV hw dX5_numberOf_14

theorem n_Weave_sendHome_0 : Cond.fieldLink RX6 9 "LacePillow$Weave" "threads" "[I" ∈ wsX6_sendHome := by decide +kernel
theorem n_Weave_sendHome_1 : ∀ w ∈ wsX60, w ∈ wsX6_sendHome := by decide +kernel
theorem n_Weave_sendHome_2 : Cond.fieldLink RX6 15 "LacePillow$Weave" "places" "[I" ∈ wsX6_sendHome := by decide +kernel
set_option maxHeartbeats 4000000 in
set_option maxRecDepth 100000 in
theorem c_Weave_sendHome (l : Launch) (G : GT) (ad : Nat → Nat) (hI : Inj LX ad) (o : Nat) (ho : isWeave o) (σ : St) {Q : St → Prop} (hV : V_Weave_sendHome o σ Q) : Met l yX6_sendHome wsX6_sendHome (rmx 0 0) (Pq vwCl G LX ad σ [.ref (ad o)]) (Qv vwCl G LX ad Q) 0 0 (Ax LX ad) := by
  unfold V_Weave_sendHome at hV
  refine x_metv (own := RX6) (by decide) rfl rfl (Nat.le_of_ble_eq_true rfl) hI ?_
  intro p e s m args below meth c R QQ X hR hret ls hl hw
  replace hl : lv_has ls 2 [(0, .ref (ad o))] := hl
  obtain ⟨H, hH⟩ : ∃ z, z = s.heap := ⟨_, rfl⟩
  obtain ⟨locs, hlo⟩ : ∃ z : List Loc, z = [] := ⟨_, rfl⟩
  rw [← hH, ← hlo]
  replace hw : Wx vwCl G LX ad s H locs σ := by rw [hH, hlo]; exact hw
  clear hH hlo
  refine x_iconst X dX6_sendHome_0 ?_
  refine x_istore_n X [(1, iV 0), (0, .ref (ad o))] dX6_sendHome_1 rfl hl (by decide) rfl (fun ls hl => ?_)
  refine WL1.use (Gl := fun x1_1 σ2 => ∀ (H : Heap) (locs : List Loc) (ls : Array Slot), Wx vwCl G LX ad s H locs σ2 → lv_has ls 2 [(1, iV x1_1), (0, .ref (ad o))] → W p l e R s m args below meth c H locs 0 0 QQ (F0 m 2 ls [])) ?_ hV H locs ls hw hl
  clear hV hw hl H locs ls
  intro bk3 x1_1 σ2 hbk3 hV H locs ls hw hl
  refine x_iload_n X dX6_sendHome_2 rfl (lv_at hl 0 rfl) ?_
  refine x_bipush X dX6_sendHome_3 (by decide) ?_
  refine x_icmp_ge X rfl k32_16 28 dX6_sendHome_5 (by decide) (fun hc => ?_) (fun hc => ?_)
  · replace hV := hV.1 hc
    exact hret σ2 H locs ls 28 hV hw dX6_sendHome_28
  · replace hV := hV.2 hc
    refine x_aload_n X dX6_sendHome_8 rfl (lv_at hl 1 rfl) ?_
    refine x_getr X hw (lfWeave ho) cX6 0 (by decide) rfl n_Weave_sendHome_1 n_Weave_sendHome_0 dX6_sendHome_9 ?_
    refine x_iload_n X dX6_sendHome_12 rfl (lv_at hl 0 rfl) ?_
    refine x_iload_n X dX6_sendHome_13 rfl (lv_at hl 0 rfl) ?_
    obtain ⟨hi, hV⟩ := hV
    refine x_iast X hw (lfWeave1 ho) rfl rfl hi dX6_sendHome_14 (fun H locs σ4 hs hw => ?_)
    replace hV := hV σ4 hs
    refine x_aload_n X dX6_sendHome_15 rfl (lv_at hl 1 rfl) ?_
    refine x_getr X hw (lfWeave ho) cX6 1 (by decide) rfl n_Weave_sendHome_1 n_Weave_sendHome_2 dX6_sendHome_16 ?_
    refine x_iload_n X dX6_sendHome_19 rfl (lv_at hl 0 rfl) ?_
    refine x_iload_n X dX6_sendHome_20 rfl (lv_at hl 0 rfl) ?_
    obtain ⟨hi, hV⟩ := hV
    refine x_iast X hw (lfWeave2 ho) rfl rfl hi dX6_sendHome_21 (fun H locs σ5 hs hw => ?_)
    replace hV := hV σ5 hs
    refine x_iinc X (k := 0) (x1_1 + 1) [(1, iV (x1_1 + 1)), (0, .ref (ad o))] dX6_sendHome_22 hl rfl rfl (by decide) rfl (fun ls hl => ?_)
    refine x_goto X 2 dX6_sendHome_25 (by decide) ?_
    exact hbk3 (x1_1 + 1) σ5 hV H locs ls hw hl

theorem n_Weave_clear_0 : Cond.fieldLink RX6 18 "LacePillow$Weave" "used" "[I" ∈ wsX6_clear := by decide +kernel
theorem n_Weave_clear_1 : ∀ w ∈ wsX60, w ∈ wsX6_clear := by decide +kernel
theorem n_Weave_clear_2 : Cond.fieldLink RX6 21 "LacePillow$Weave" "overs" "[I" ∈ wsX6_clear := by decide +kernel
theorem n_Weave_clear_3 : Cond.fieldLink RX6 24 "LacePillow$Weave" "unders" "[I" ∈ wsX6_clear := by decide +kernel
theorem n_Weave_clear_4 : Cond.fieldLink RX6 27 "LacePillow$Weave" "falses" "[I" ∈ wsX6_clear := by decide +kernel
theorem n_Weave_clear_5 : Cond.fieldLink RX6 30 "LacePillow$Weave" "sides" "[I" ∈ wsX6_clear := by decide +kernel
theorem n_Weave_clear_6 : Cond.fieldLink RX6 33 "LacePillow$Weave" "passes" "[I" ∈ wsX6_clear := by decide +kernel
theorem n_Weave_clear_7 : Cond.fieldLink RX6 39 "LacePillow$Weave" "heap" "LLacePillow$Heap;" ∈ wsX6_clear := by decide +kernel
theorem n_Weave_clear_8 : Cond.fieldLink RX6 43 "LacePillow$Weave" "crossings" "I" ∈ wsX6_clear := by decide +kernel
set_option maxHeartbeats 4000000 in
set_option maxRecDepth 100000 in
theorem c_Weave_clear (l : Launch) (G : GT) (ad : Nat → Nat) (hI : Inj LX ad) (o : Nat) (ho : isWeave o) (σ : St) {Q : St → Prop} (hV : V_Weave_clear o σ Q) : Met l yX6_clear wsX6_clear (rmx 2 43) (Pq vwCl G LX ad σ [.ref (ad o)]) (Qv vwCl G LX ad Q) 0 0 (Ax LX ad) := by
  unfold V_Weave_clear at hV
  refine x_metv (own := RX6) (by decide) rfl rfl (Nat.le_of_ble_eq_true rfl) hI ?_
  intro p e s m args below meth c R QQ X hR hret ls hl hw
  replace hl : lv_has ls 1 [(0, .ref (ad o))] := hl
  obtain ⟨H, hH⟩ : ∃ z, z = s.heap := ⟨_, rfl⟩
  obtain ⟨locs, hlo⟩ : ∃ z : List Loc, z = [] := ⟨_, rfl⟩
  rw [← hH, ← hlo]
  replace hw : Wx vwCl G LX ad s H locs σ := by rw [hH, hlo]; exact hw
  clear hH hlo
  refine x_aload_n X dX6_clear_0 rfl (lv_at hl 0 rfl) ?_
  refine x_cvv X hw [] [] (c_Weave_sendHome l G ad hI o ho σ hV) (cwV 0 X.2.2.2.2 gX6_clear_X6_sendHome rfl rfl rfl hd_Weave_sendHome ⟨x_fr hR.1 rfl, x_fr hR.2 rfl⟩) (lfWeave ho) cX6 rfl hl.1 rfl (Nat.le_of_ble_eq_true rfl) dX6_clear_1 ⟨Nat.zero_le _, Nat.zero_le _⟩ (fun σ1 H locs hV hw => ?_)
  refine x_aload_n X dX6_clear_4 rfl (lv_at hl 0 rfl) ?_
  refine x_getr X hw (lfWeave ho) cX6 2 (by decide) rfl n_Weave_clear_1 n_Weave_clear_0 dX6_clear_5 ?_
  refine x_iconst X dX6_clear_8 ?_
  refine x_csv X hw [.ref (ad (o + 3)), iV 0] [] (c_fillI l G ad hI (o + 3) 16 (lfWeave3 ho) σ1 0 hV) (va_cwS 2 X.2.2.2.2 gX6_clear_J7_fill_53178 rfl rfl rfl hd_fillI ⟨x_fr hR.1 rfl, x_fr hR.2 rfl⟩) rfl hl.1 rfl (Nat.le_of_ble_eq_true rfl) dX6_clear_9 ⟨Nat.zero_le _, Nat.zero_le _⟩ (fun σ2 H locs hV hw => ?_)
  refine x_aload_n X dX6_clear_12 rfl (lv_at hl 0 rfl) ?_
  refine x_getr X hw (lfWeave ho) cX6 3 (by decide) rfl n_Weave_clear_1 n_Weave_clear_2 dX6_clear_13 ?_
  refine x_iconst X dX6_clear_16 ?_
  refine x_csv X hw [.ref (ad (o + 4)), iV 0] [] (c_fillI l G ad hI (o + 4) 16 (lfWeave4 ho) σ2 0 hV) (va_cwS 2 X.2.2.2.2 gX6_clear_J7_fill_53178 rfl rfl rfl hd_fillI ⟨x_fr hR.1 rfl, x_fr hR.2 rfl⟩) rfl hl.1 rfl (Nat.le_of_ble_eq_true rfl) dX6_clear_17 ⟨Nat.zero_le _, Nat.zero_le _⟩ (fun σ3 H locs hV hw => ?_)
  refine x_aload_n X dX6_clear_20 rfl (lv_at hl 0 rfl) ?_
  refine x_getr X hw (lfWeave ho) cX6 4 (by decide) rfl n_Weave_clear_1 n_Weave_clear_3 dX6_clear_21 ?_
  refine x_iconst X dX6_clear_24 ?_
  refine x_csv X hw [.ref (ad (o + 5)), iV 0] [] (c_fillI l G ad hI (o + 5) 16 (lfWeave5 ho) σ3 0 hV) (va_cwS 2 X.2.2.2.2 gX6_clear_J7_fill_53178 rfl rfl rfl hd_fillI ⟨x_fr hR.1 rfl, x_fr hR.2 rfl⟩) rfl hl.1 rfl (Nat.le_of_ble_eq_true rfl) dX6_clear_25 ⟨Nat.zero_le _, Nat.zero_le _⟩ (fun σ4 H locs hV hw => ?_)
  refine x_aload_n X dX6_clear_28 rfl (lv_at hl 0 rfl) ?_
  refine x_getr X hw (lfWeave ho) cX6 5 (by decide) rfl n_Weave_clear_1 n_Weave_clear_4 dX6_clear_29 ?_
  refine x_iconst X dX6_clear_32 ?_
  refine x_csv X hw [.ref (ad (o + 6)), iV (-1)] [] (c_fillI l G ad hI (o + 6) 16 (lfWeave6 ho) σ4 (-1) hV) (va_cwS 2 X.2.2.2.2 gX6_clear_J7_fill_53178 rfl rfl rfl hd_fillI ⟨x_fr hR.1 rfl, x_fr hR.2 rfl⟩) rfl hl.1 rfl (Nat.le_of_ble_eq_true rfl) dX6_clear_33 ⟨Nat.zero_le _, Nat.zero_le _⟩ (fun σ5 H locs hV hw => ?_)
  refine x_aload_n X dX6_clear_36 rfl (lv_at hl 0 rfl) ?_
  refine x_getr X hw (lfWeave ho) cX6 6 (by decide) rfl n_Weave_clear_1 n_Weave_clear_5 dX6_clear_37 ?_
  refine x_iconst X dX6_clear_40 ?_
  refine x_csv X hw [.ref (ad (o + 7)), iV 0] [] (c_fillI l G ad hI (o + 7) 16 (lfWeave7 ho) σ5 0 hV) (va_cwS 2 X.2.2.2.2 gX6_clear_J7_fill_53178 rfl rfl rfl hd_fillI ⟨x_fr hR.1 rfl, x_fr hR.2 rfl⟩) rfl hl.1 rfl (Nat.le_of_ble_eq_true rfl) dX6_clear_41 ⟨Nat.zero_le _, Nat.zero_le _⟩ (fun σ6 H locs hV hw => ?_)
  refine x_aload_n X dX6_clear_44 rfl (lv_at hl 0 rfl) ?_
  refine x_getr X hw (lfWeave ho) cX6 7 (by decide) rfl n_Weave_clear_1 n_Weave_clear_6 dX6_clear_45 ?_
  refine x_iconst X dX6_clear_48 ?_
  refine x_csv X hw [.ref (ad (o + 8)), iV 0] [] (c_fillI l G ad hI (o + 8) 256 (lfWeave8 ho) σ6 0 hV) (va_cwS 2 X.2.2.2.2 gX6_clear_J7_fill_53178 rfl rfl rfl hd_fillI ⟨x_fr hR.1 rfl, x_fr hR.2 rfl⟩) rfl hl.1 rfl (Nat.le_of_ble_eq_true rfl) dX6_clear_49 ⟨Nat.zero_le _, Nat.zero_le _⟩ (fun σ7 H locs hV hw => ?_)
  refine x_aload_n X dX6_clear_52 rfl (lv_at hl 0 rfl) ?_
  refine x_getr X hw (lfWeave ho) cX6 8 (by decide) rfl n_Weave_clear_1 n_Weave_clear_7 dX6_clear_53 ?_
  refine x_cvv X hw [] [] (c_Heap_clear l G ad hI (o + 9) (hpWv ho) σ7 hV) (cwV 0 X.2.2.2.2 gX6_clear_X1_clear rfl rfl rfl hd_Heap_clear ⟨x_fr hR.1 rfl, x_fr hR.2 rfl⟩) (lfWeave9 ho) cX1 rfl hl.1 rfl (Nat.le_of_ble_eq_true rfl) dX6_clear_56 ⟨Nat.zero_le _, Nat.zero_le _⟩ (fun σ8 H locs hV hw => ?_)
  refine x_aload_n X dX6_clear_59 rfl (lv_at hl 0 rfl) ?_
  refine x_iconst X dX6_clear_60 ?_
  refine x_puti X hw (lfWeave ho) cX6 9 (by decide) rfl n_Weave_clear_1 n_Weave_clear_8 tyX6 tyX6_ok nmX6 rfl rfl rfl dX6_clear_61 (fun H locs σ9 hs hw => ?_)
  replace hV := hV σ9 hs
  exact hret σ9 H locs ls 64 hV hw dX6_clear_64
