theorem n_Ground_enter_0 : Cond.fieldLink RX0 9 "LacePillow$Ground" "size" "I" ∈ wsX0_enter := by decide +kernel
theorem n_Ground_enter_1 : ∀ w ∈ wsX00, w ∈ wsX0_enter := by decide +kernel
theorem n_Ground_enter_2 : Cond.fieldLink RX0 18 "LacePillow$Ground" "rows" "[I" ∈ wsX0_enter := by decide +kernel
theorem n_Ground_enter_3 : Cond.fieldLink RX0 22 "LacePillow$Ground" "gaps" "[I" ∈ wsX0_enter := by decide +kernel
theorem n_Ground_enter_4 : Cond.fieldLink RX0 25 "LacePillow$Ground" "kinds" "[I" ∈ wsX0_enter := by decide +kernel
theorem n_Ground_enter_5 : Cond.fieldLink RX0 28 "LacePillow$Ground" "levels" "[I" ∈ wsX0_enter := by decide +kernel
theorem n_Ground_enter_6 : Cond.fieldLink RX0 31 "LacePillow$Ground" "before" "[J" ∈ wsX0_enter := by decide +kernel
theorem n_Ground_enter_7 : Cond.fieldLink RX0 15 "LacePillow$Ground" "deep" "I" ∈ wsX0_enter := by decide +kernel
theorem n_Ground_enter_8 : Cond.methodLink RX0 50 Lib.Math.abs.name ∈ wsX0_enter := by decide +kernel
theorem n_Ground_enter_9 : Cond.static Lib.Math.abs.name ∈ wsX0_enter := by decide +kernel
theorem n_Ground_enter_10 : Cond.initialized "java/lang/Math" ∈ wsX0_enter := by decide +kernel
theorem n_Ground_enter_11 : Cond.code Lib.Math.abs.name Lib.Math.abs.code 1 (some .int) ∈ wsX0_enter := by decide +kernel
theorem n_Ground_enter_12 : Cond.methodLink RX0 56 Lib.Math.max.name ∈ wsX0_enter := by decide +kernel
theorem n_Ground_enter_13 : Cond.static Lib.Math.max.name ∈ wsX0_enter := by decide +kernel
theorem n_Ground_enter_14 : Cond.code Lib.Math.max.name Lib.Math.max.code 2 (some .int) ∈ wsX0_enter := by decide +kernel
set_option maxHeartbeats 4000000 in
set_option maxRecDepth 100000 in
theorem c_Ground_enter (l : Launch) (G : GT) (ad : Nat → Nat) (hI : Inj LX ad) (σ : St) (a1 : Int) (a2 : Int) (a3 : Int) {Q : St → Prop} (hV : V_Ground_enter σ a1 a2 a3 Q) : Met l yX0_enter wsX0_enter (rmx 1 30) (Pq vwCl G LX ad σ [.ref (ad 16), iV a1, iV a2, iV a3]) (Qv vwCl G LX ad Q) 0 0 (Ax LX ad) := by
  unfold V_Ground_enter at hV
  refine x_metv (own := RX0) (by decide) rfl rfl (Nat.le_of_ble_eq_true rfl) hI ?_
  intro p e s m args below meth c R QQ X hR hret ls hl hw
  replace hl : lv_has ls 6 [(0, .ref (ad 16)), (1, iV a1), (2, iV a2), (3, iV a3)] := hl
  obtain ⟨H, hH⟩ : ∃ z, z = s.heap := ⟨_, rfl⟩
  obtain ⟨locs, hlo⟩ : ∃ z : List Loc, z = [] := ⟨_, rfl⟩
  rw [← hH, ← hlo]
  replace hw : Wx vwCl G LX ad s H locs σ := by rw [hH, hlo]; exact hw
  clear hH hlo
  refine x_aload_n X dX0_enter_0 rfl (lv_at hl 0 rfl) ?_
  refine x_geti X hw lx16 cX0 0 (by decide) rfl n_Ground_enter_1 n_Ground_enter_0 dX0_enter_1 ?_
  refine x_bi (fun x4_1 ex4_1 => ?_)
  replace hV := hV x4_1 ex4_1
  clear ex4_1
  refine x_istore X [(4, iV x4_1), (0, .ref (ad 16)), (1, iV a1), (2, iV a2), (3, iV a3)] dX0_enter_4 hl (by decide) rfl (fun ls hl => ?_)
  refine x_aload_n X dX0_enter_6 rfl (lv_at hl 1 rfl) ?_
  refine x_getr X hw lx16 cX0 2 (by decide) rfl n_Ground_enter_1 n_Ground_enter_2 dX0_enter_7 ?_
  refine x_iload X dX0_enter_10 (lv_at hl 0 rfl) ?_
  refine x_iload_n X dX0_enter_12 rfl (lv_at hl 2 rfl) ?_
  obtain ⟨hi, hV⟩ := hV
  refine x_iast X hw lx17 rfl rfl hi dX0_enter_13 (fun H locs σ2 hs hw => ?_)
  replace hV := hV σ2 hs
  refine x_aload_n X dX0_enter_14 rfl (lv_at hl 1 rfl) ?_
  refine x_getr X hw lx16 cX0 3 (by decide) rfl n_Ground_enter_1 n_Ground_enter_3 dX0_enter_15 ?_
  refine x_iload X dX0_enter_18 (lv_at hl 0 rfl) ?_
  refine x_iload_n X dX0_enter_20 rfl (lv_at hl 3 rfl) ?_
  obtain ⟨hi, hV⟩ := hV
  refine x_iast X hw lx18 rfl rfl hi dX0_enter_21 (fun H locs σ3 hs hw => ?_)
  replace hV := hV σ3 hs
  refine x_aload_n X dX0_enter_22 rfl (lv_at hl 1 rfl) ?_
  refine x_getr X hw lx16 cX0 4 (by decide) rfl n_Ground_enter_1 n_Ground_enter_4 dX0_enter_23 ?_
  refine x_iload X dX0_enter_26 (lv_at hl 0 rfl) ?_
  refine x_iload_n X dX0_enter_28 rfl (lv_at hl 4 rfl) ?_
  obtain ⟨hi, hV⟩ := hV
  refine x_iast X hw lx19 rfl rfl hi dX0_enter_29 (fun H locs σ4 hs hw => ?_)
  replace hV := hV σ4 hs
  refine x_aload_n X dX0_enter_30 rfl (lv_at hl 1 rfl) ?_
  refine x_getr X hw lx16 cX0 5 (by decide) rfl n_Ground_enter_1 n_Ground_enter_5 dX0_enter_31 ?_
  refine x_iload X dX0_enter_34 (lv_at hl 0 rfl) ?_
  refine x_iconst X dX0_enter_36 ?_
  obtain ⟨hi, hV⟩ := hV
  refine x_iast X hw lx20 rfl rfl hi dX0_enter_37 (fun H locs σ5 hs hw => ?_)
  replace hV := hV σ5 hs
  refine x_aload_n X dX0_enter_38 rfl (lv_at hl 1 rfl) ?_
  refine x_getr X hw lx16 cX0 6 (by decide) rfl n_Ground_enter_1 n_Ground_enter_6 dX0_enter_39 ?_
  refine x_iload X dX0_enter_42 (lv_at hl 0 rfl) ?_
  refine x_lconst X 0 dX0_enter_44 rfl ?_
  obtain ⟨hi, hV⟩ := hV
  refine x_last X hw lx21 rfl rfl hi dX0_enter_45 (fun H locs σ6 hs hw => ?_)
  replace hV := hV σ6 hs
  refine x_iconst X dX0_enter_46 ?_
  refine x_istore X [(5, iV 0), (4, iV x4_1), (0, .ref (ad 16)), (1, iV a1), (2, iV a2), (3, iV a3)] dX0_enter_47 hl (by decide) rfl (fun ls hl => ?_)
  refine WL1.use (Gl := fun x5_7 σ8 => ∀ (H : Heap) (locs : List Loc) (ls : Array Slot), Wx vwCl G LX ad s H locs σ8 → lv_has ls 6 [(5, iV x5_7), (4, iV x4_1), (0, .ref (ad 16)), (1, iV a1), (2, iV a2)] → W p l e R s m args below meth c H locs 0 0 QQ (F0 m 49 ls [])) ?_ hV H locs ls hw (lv_sub hl [0, 1, 2, 3, 4] rfl)
  clear hV hw hl H locs ls
  intro bk9 x5_7 σ8 hbk9 hV H locs ls hw hl
  refine x_iload X dX0_enter_49 (lv_at hl 0 rfl) ?_
  refine x_iload X dX0_enter_51 (lv_at hl 1 rfl) ?_
  refine x_icmp_ge X rfl rfl 137 dX0_enter_53 (by decide) (fun hc => ?_) (fun hc => ?_)
  · replace hV := hV.1 hc
    refine x_aload_n X dX0_enter_137 rfl (lv_at hl 2 rfl) ?_
    refine x_dup X dX0_enter_138 rfl ?_
    refine x_geti X hw lx16 cX0 0 (by decide) rfl n_Ground_enter_1 n_Ground_enter_0 dX0_enter_139 ?_
    refine x_iconst X dX0_enter_142 ?_
    refine x_iadd X dX0_enter_143 ?_
    refine x_puti X hw lx16 cX0 0 (by decide) rfl n_Ground_enter_1 n_Ground_enter_0 tyX0 tyX0_ok nmX0 rfl rfl rfl dX0_enter_144 (fun H locs σ10 hs hw => ?_)
    replace hV := hV σ10 hs
    refine x_aload_n X dX0_enter_147 rfl (lv_at hl 2 rfl) ?_
    refine x_iload_n X dX0_enter_148 rfl (lv_at hl 3 rfl) ?_
    refine x_iconst X dX0_enter_149 ?_
    refine x_iadd X dX0_enter_150 ?_
    refine x_puti X hw lx16 cX0 1 (by decide) rfl n_Ground_enter_1 n_Ground_enter_7 tyX0 tyX0_ok nmX0 rfl rfl rfl dX0_enter_151 (fun H locs σ11 hs hw => ?_)
    replace hV := hV σ11 hs
    exact hret σ11 H locs ls 154 hV hw dX0_enter_154
  · replace hV := hV.2 hc
    refine x_aload_n X dX0_enter_56 rfl (lv_at hl 2 rfl) ?_
    refine x_getr X hw lx16 cX0 2 (by decide) rfl n_Ground_enter_1 n_Ground_enter_2 dX0_enter_57 ?_
    refine x_iload X dX0_enter_60 (lv_at hl 0 rfl) ?_
    obtain ⟨hi, hV⟩ := hV
    refine x_iald X hw lx17 rfl rfl hi dX0_enter_62 ?_
    refine x_iload_n X dX0_enter_63 rfl (lv_at hl 3 rfl) ?_
    refine x_icmp_ge X rfl rfl 131 dX0_enter_64 (by decide) (fun hc => ?_) (fun hc => ?_)
    · replace hV := hV.1 hc
      refine x_iinc X (k := 0) (x5_7 + 1) [(5, iV (x5_7 + 1)), (4, iV x4_1), (0, .ref (ad 16)), (1, iV a1), (2, iV a2)] dX0_enter_131 hl rfl rfl (by decide) rfl (fun ls hl => ?_)
      refine x_goto X 49 dX0_enter_134 (by decide) ?_
      exact hbk9 (x5_7 + 1) σ8 hV H locs ls hw hl
    · replace hV := hV.2 hc
      refine x_aload_n X dX0_enter_67 rfl (lv_at hl 2 rfl) ?_
      refine x_getr X hw lx16 cX0 3 (by decide) rfl n_Ground_enter_1 n_Ground_enter_3 dX0_enter_68 ?_
      refine x_iload X dX0_enter_71 (lv_at hl 0 rfl) ?_
      obtain ⟨hi, hV⟩ := hV
      refine x_iald X hw lx18 rfl rfl hi dX0_enter_73 ?_
      refine x_iload_n X dX0_enter_74 rfl (lv_at hl 4 rfl) ?_
      refine x_isub X dX0_enter_75 ?_
      refine x_mabs X hl.1 n_Ground_enter_8 n_Ground_enter_9 n_Ground_enter_10 n_Ground_enter_11 (x_fr hR.1 rfl) (x_fr hR.2 rfl) ⟨Nat.zero_le _, Nat.zero_le _⟩ dX0_enter_76 ?_
      refine x_iconst X dX0_enter_79 ?_
      refine x_icmp_gt X rfl k32_1 131 dX0_enter_80 (by decide) (fun hc => ?_) (fun hc => ?_)
      · replace hV := hV.1 hc
        refine x_iinc X (k := 0) (x5_7 + 1) [(5, iV (x5_7 + 1)), (4, iV x4_1), (0, .ref (ad 16)), (1, iV a1), (2, iV a2)] dX0_enter_131 hl rfl rfl (by decide) rfl (fun ls hl => ?_)
        refine x_goto X 49 dX0_enter_134 (by decide) ?_
        exact hbk9 (x5_7 + 1) σ8 hV H locs ls hw hl
      · replace hV := hV.2 hc
        refine x_aload_n X dX0_enter_83 rfl (lv_at hl 2 rfl) ?_
        refine x_getr X hw lx16 cX0 6 (by decide) rfl n_Ground_enter_1 n_Ground_enter_6 dX0_enter_84 ?_
        refine x_iload X dX0_enter_87 (lv_at hl 1 rfl) ?_
        refine x_dup2 X dX0_enter_89 rfl rfl ?_
        obtain ⟨hi, hV⟩ := hV
        refine x_lald X hw lx21 rfl rfl hi dX0_enter_90 ?_
        refine x_aload_n X dX0_enter_91 rfl (lv_at hl 2 rfl) ?_
        refine x_getr X hw lx16 cX0 6 (by decide) rfl n_Ground_enter_1 n_Ground_enter_6 dX0_enter_92 ?_
        refine x_iload X dX0_enter_95 (lv_at hl 0 rfl) ?_
        obtain ⟨hi, hV⟩ := hV
        refine x_lald X hw lx21 rfl rfl hi dX0_enter_97 ?_
        refine x_lconst X 1 dX0_enter_98 rfl ?_
        refine x_iload X dX0_enter_99 (lv_at hl 0 rfl) ?_
        refine x_lshl X dX0_enter_101 ?_
        refine x_lor X dX0_enter_102 ?_
        refine x_lor X dX0_enter_103 ?_
        obtain ⟨hi, hV⟩ := hV
        refine x_last X hw lx21 rfl rfl hi dX0_enter_104 (fun H locs σ12 hs hw => ?_)
        replace hV := hV σ12 hs
        refine x_aload_n X dX0_enter_105 rfl (lv_at hl 2 rfl) ?_
        refine x_getr X hw lx16 cX0 5 (by decide) rfl n_Ground_enter_1 n_Ground_enter_5 dX0_enter_106 ?_
        refine x_iload X dX0_enter_109 (lv_at hl 1 rfl) ?_
        refine x_aload_n X dX0_enter_111 rfl (lv_at hl 2 rfl) ?_
        refine x_getr X hw lx16 cX0 5 (by decide) rfl n_Ground_enter_1 n_Ground_enter_5 dX0_enter_112 ?_
        refine x_iload X dX0_enter_115 (lv_at hl 1 rfl) ?_
        obtain ⟨hi, hV⟩ := hV
        refine x_iald X hw lx20 rfl rfl hi dX0_enter_117 ?_
        refine x_aload_n X dX0_enter_118 rfl (lv_at hl 2 rfl) ?_
        refine x_getr X hw lx16 cX0 5 (by decide) rfl n_Ground_enter_1 n_Ground_enter_5 dX0_enter_119 ?_
        refine x_iload X dX0_enter_122 (lv_at hl 0 rfl) ?_
        obtain ⟨hi, hV⟩ := hV
        refine x_iald X hw lx20 rfl rfl hi dX0_enter_124 ?_
        refine x_iconst X dX0_enter_125 ?_
        refine x_iadd X dX0_enter_126 ?_
        refine x_mmax X hl.1 n_Ground_enter_12 n_Ground_enter_13 n_Ground_enter_10 n_Ground_enter_14 (x_fr hR.1 rfl) (x_fr hR.2 rfl) ⟨Nat.zero_le _, Nat.zero_le _⟩ dX0_enter_127 ?_
        obtain ⟨hi, hV⟩ := hV
        refine x_iast X hw lx20 rfl rfl hi dX0_enter_130 (fun H locs σ13 hs hw => ?_)
        replace hV := hV σ13 hs
        refine x_iinc X (k := 0) (x5_7 + 1) [(5, iV (x5_7 + 1)), (4, iV x4_1), (0, .ref (ad 16)), (1, iV a1), (2, iV a2)] dX0_enter_131 hl rfl rfl (by decide) rfl (fun ls hl => ?_)
        refine x_goto X 49 dX0_enter_134 (by decide) ?_
        exact hbk9 (x5_7 + 1) σ13 hV H locs ls hw hl

theorem n_Ground_gather_0 : Cond.fieldLink RX0 9 "LacePillow$Ground" "size" "I" ∈ wsX0_gather := by decide +kernel
theorem n_Ground_gather_1 : ∀ w ∈ wsX00, w ∈ wsX0_gather := by decide +kernel
theorem n_Ground_gather_2 : Cond.fieldLink RX0 15 "LacePillow$Ground" "deep" "I" ∈ wsX0_gather := by decide +kernel
theorem n_Ground_gather_3 : Cond.fieldLink RX0 38 "LacePillow$Plan" "pairs" "I" ∈ wsX0_gather := by decide +kernel
theorem n_Ground_gather_4 : ∀ w ∈ wsX20, w ∈ wsX0_gather := by decide +kernel
theorem n_Ground_gather_5 : Cond.fieldLink RX0 43 "LacePillow$Plan" "cells" "[I" ∈ wsX0_gather := by decide +kernel
set_option maxHeartbeats 4000000 in
set_option maxRecDepth 100000 in
theorem c_Ground_gather (l : Launch) (G : GT) (ad : Nat → Nat) (hI : Inj LX ad) (σ : St) {Q : St → Prop} (hV : V_Ground_gather σ Q) : Met l yX0_gather wsX0_gather (rmx 2 55) (Pq vwCl G LX ad σ [.ref (ad 16), .ref (ad 1)]) (Qv vwCl G LX ad Q) 0 0 (Ax LX ad) := by
  unfold V_Ground_gather at hV
  refine x_metv (own := RX0) (by decide) rfl rfl (Nat.le_of_ble_eq_true rfl) hI ?_
  intro p e s m args below meth c R QQ X hR hret ls hl hw
  replace hl : lv_has ls 5 [(0, .ref (ad 16)), (1, .ref (ad 1))] := hl
  obtain ⟨H, hH⟩ : ∃ z, z = s.heap := ⟨_, rfl⟩
  obtain ⟨locs, hlo⟩ : ∃ z : List Loc, z = [] := ⟨_, rfl⟩
  rw [← hH, ← hlo]
  replace hw : Wx vwCl G LX ad s H locs σ := by rw [hH, hlo]; exact hw
  clear hH hlo
  refine x_aload_n X dX0_gather_0 rfl (lv_at hl 0 rfl) ?_
  refine x_iconst X dX0_gather_1 ?_
  refine x_puti X hw lx16 cX0 0 (by decide) rfl n_Ground_gather_1 n_Ground_gather_0 tyX0 tyX0_ok nmX0 rfl rfl rfl dX0_gather_2 (fun H locs σ1 hs hw => ?_)
  replace hV := hV σ1 hs
  refine x_aload_n X dX0_gather_5 rfl (lv_at hl 0 rfl) ?_
  refine x_iconst X dX0_gather_6 ?_
  refine x_puti X hw lx16 cX0 1 (by decide) rfl n_Ground_gather_1 n_Ground_gather_2 tyX0 tyX0_ok nmX0 rfl rfl rfl dX0_gather_7 (fun H locs σ2 hs hw => ?_)
  replace hV := hV σ2 hs
  refine x_iconst X dX0_gather_10 ?_
  refine x_istore_n X [(2, iV 0), (0, .ref (ad 16)), (1, .ref (ad 1))] dX0_gather_11 rfl hl (by decide) rfl (fun ls hl => ?_)
  refine WL1.use (Gl := fun x2_3 σ4 => ∀ (H : Heap) (locs : List Loc) (ls : Array Slot), Wx vwCl G LX ad s H locs σ4 → lv_has ls 5 [(2, iV x2_3), (0, .ref (ad 16)), (1, .ref (ad 1))] → W p l e R s m args below meth c H locs 0 0 QQ (F0 m 12 ls [])) ?_ hV H locs ls hw hl
  clear hV hw hl H locs ls
  intro bk5 x2_3 σ4 hbk5 hV H locs ls hw hl
  refine x_iload_n X dX0_gather_12 rfl (lv_at hl 0 rfl) ?_
  refine x_bipush X dX0_gather_13 (by decide) ?_
  refine x_icmp_ge X rfl k32_12 78 dX0_gather_15 (by decide) (fun hc => ?_) (fun hc => ?_)
  · replace hV := hV.1 hc
    exact hret σ4 H locs ls 78 hV hw dX0_gather_78
  · replace hV := hV.2 hc
    refine x_iconst X dX0_gather_18 ?_
    refine x_istore_n X [(3, iV 0), (2, iV x2_3), (0, .ref (ad 16)), (1, .ref (ad 1))] dX0_gather_19 rfl hl (by decide) rfl (fun ls hl => ?_)
    refine WL1.use (Gl := fun x3_6 σ7 => ∀ (H : Heap) (locs : List Loc) (ls : Array Slot), Wx vwCl G LX ad s H locs σ7 → lv_has ls 5 [(3, iV x3_6), (2, iV x2_3), (0, .ref (ad 16)), (1, .ref (ad 1))] → W p l e R s m args below meth c H locs 0 0 QQ (F0 m 20 ls [])) ?_ hV H locs ls hw hl
    clear hV hw hl H locs ls
    intro bk8 x3_6 σ7 hbk8 hV H locs ls hw hl
    refine x_iload_n X dX0_gather_20 rfl (lv_at hl 0 rfl) ?_
    refine x_aload_n X dX0_gather_21 rfl (lv_at hl 3 rfl) ?_
    refine x_geti X hw lx1 cX2 0 (by decide) rfl n_Ground_gather_4 n_Ground_gather_3 dX0_gather_22 ?_
    refine x_iconst X dX0_gather_25 ?_
    refine x_isub X dX0_gather_26 ?_
    refine x_icmp_ge X rfl rfl 72 dX0_gather_27 (by decide) (fun hc => ?_) (fun hc => ?_)
    · replace hV := hV.1 hc
      refine x_iinc X (k := 1) (x2_3 + 1) [(2, iV (x2_3 + 1)), (3, iV x3_6), (0, .ref (ad 16)), (1, .ref (ad 1))] dX0_gather_72 hl rfl rfl (by decide) rfl (fun ls hl => ?_)
      refine x_goto X 12 dX0_gather_75 (by decide) ?_
      exact hbk5 (x2_3 + 1) σ7 hV H locs ls hw (lv_sub hl [0, 2, 3] rfl)
    · replace hV := hV.2 hc
      refine x_aload_n X dX0_gather_30 rfl (lv_at hl 3 rfl) ?_
      refine x_getr X hw lx1 cX2 1 (by decide) rfl n_Ground_gather_4 n_Ground_gather_5 dX0_gather_31 ?_
      refine x_iload_n X dX0_gather_34 rfl (lv_at hl 1 rfl) ?_
      refine x_bipush X dX0_gather_35 (by decide) ?_
      refine x_imul X dX0_gather_37 ?_
      refine x_iload_n X dX0_gather_38 rfl (lv_at hl 0 rfl) ?_
      refine x_iadd X dX0_gather_39 ?_
      obtain ⟨hi, hV⟩ := hV
      refine x_iald X hw lx2 rfl rfl hi dX0_gather_40 ?_
      refine x_bi (fun x4_9 ex4_9 => ?_)
      replace hV := hV x4_9 ex4_9
      clear ex4_9
      refine x_istore X [(4, iV x4_9), (3, iV x3_6), (2, iV x2_3), (0, .ref (ad 16)), (1, .ref (ad 1))] dX0_gather_41 hl (by decide) rfl (fun ls hl => ?_)
      refine x_iload X dX0_gather_43 (lv_at hl 0 rfl) ?_
      refine x_iconst X dX0_gather_45 ?_
      refine x_icmp_eq X rfl k32_m1 66 dX0_gather_46 (by decide) (fun hc => ?_) (fun hc => ?_)
      · replace hV := hV.1 hc
        refine x_iinc X (k := 1) (x3_6 + 1) [(3, iV (x3_6 + 1)), (4, iV x4_9), (2, iV x2_3), (0, .ref (ad 16)), (1, .ref (ad 1))] dX0_gather_66 hl rfl rfl (by decide) rfl (fun ls hl => ?_)
        refine x_goto X 20 dX0_gather_69 (by decide) ?_
        exact hbk8 (x3_6 + 1) σ7 hV H locs ls hw (lv_sub hl [0, 2, 3, 4] rfl)
      · replace hV := hV.2 hc
        refine x_aload_n X dX0_gather_49 rfl (lv_at hl 3 rfl) ?_
        refine x_geti X hw lx16 cX0 0 (by decide) rfl n_Ground_gather_1 n_Ground_gather_0 dX0_gather_50 ?_
        refine x_bipush X dX0_gather_53 (by decide) ?_
        refine x_icmp_ge X rfl k32_48 66 dX0_gather_55 (by decide) (fun hc => ?_) (fun hc => ?_)
        · replace hV := hV.1 hc
          refine x_iinc X (k := 1) (x3_6 + 1) [(3, iV (x3_6 + 1)), (4, iV x4_9), (2, iV x2_3), (0, .ref (ad 16)), (1, .ref (ad 1))] dX0_gather_66 hl rfl rfl (by decide) rfl (fun ls hl => ?_)
          refine x_goto X 20 dX0_gather_69 (by decide) ?_
          exact hbk8 (x3_6 + 1) σ7 hV H locs ls hw (lv_sub hl [0, 2, 3, 4] rfl)
        · replace hV := hV.2 hc
          refine x_aload_n X dX0_gather_58 rfl (lv_at hl 3 rfl) ?_
          refine x_iload_n X dX0_gather_59 rfl (lv_at hl 2 rfl) ?_
          refine x_iload_n X dX0_gather_60 rfl (lv_at hl 1 rfl) ?_
          refine x_iload X dX0_gather_61 (lv_at hl 0 rfl) ?_
          refine x_cvv X hw [iV x2_3, iV x3_6, iV x4_9] [] (c_Ground_enter l G ad hI σ7 x2_3 x3_6 x4_9 hV) (cwV 3 X.2.2.2.2 gX0_gather_X0_enter rfl rfl rfl hd_Ground_enter ⟨x_fr hR.1 rfl, x_fr hR.2 rfl⟩) lx16 cX0 rfl hl.1 rfl (Nat.le_of_ble_eq_true rfl) dX0_gather_63 ⟨Nat.zero_le _, Nat.zero_le _⟩ (fun σ10 H locs hV hw => ?_)
          refine x_iinc X (k := 1) (x3_6 + 1) [(3, iV (x3_6 + 1)), (4, iV x4_9), (2, iV x2_3), (0, .ref (ad 16)), (1, .ref (ad 1))] dX0_gather_66 hl rfl rfl (by decide) rfl (fun ls hl => ?_)
          refine x_goto X 20 dX0_gather_69 (by decide) ?_
          exact hbk8 (x3_6 + 1) σ10 hV H locs ls hw (lv_sub hl [0, 2, 3, 4] rfl)

theorem n_Ground_leads_0 : Cond.fieldLink RX0 31 "LacePillow$Ground" "before" "[J" ∈ wsX0_leads := by decide +kernel
theorem n_Ground_leads_1 : ∀ w ∈ wsX00, w ∈ wsX0_leads := by decide +kernel
set_option maxHeartbeats 4000000 in
set_option maxRecDepth 100000 in
theorem c_Ground_leads (l : Launch) (G : GT) (ad : Nat → Nat) (hI : Inj LX ad) (σ : St) (a1 : Int) (a2 : Int) {Q : Int → St → Prop} (hV : V_Ground_leads σ a1 a2 Q) : Met l yX0_leads wsX0_leads (rmx 0 0) (Pq vwCl G LX ad σ [.ref (ad 16), iV a1, iV a2]) (Qz vwCl G LX ad Q) 0 0 (Ax LX ad) := by
  unfold V_Ground_leads at hV
  refine x_metz (own := RX0) (by decide) rfl rfl (Nat.le_of_ble_eq_true rfl) hI ?_
  intro p e s m args below meth c R QQ X hR hret ls hl hw
  replace hl : lv_has ls 3 [(0, .ref (ad 16)), (1, iV a1), (2, iV a2)] := hl
  obtain ⟨H, hH⟩ : ∃ z, z = s.heap := ⟨_, rfl⟩
  obtain ⟨locs, hlo⟩ : ∃ z : List Loc, z = [] := ⟨_, rfl⟩
  rw [← hH, ← hlo]
  replace hw : Wx vwCl G LX ad s H locs σ := by rw [hH, hlo]; exact hw
  clear hH hlo
  refine x_aload_n X dX0_leads_0 rfl (lv_at hl 0 rfl) ?_
  refine x_getr X hw lx16 cX0 6 (by decide) rfl n_Ground_leads_1 n_Ground_leads_0 dX0_leads_1 ?_
  refine x_iload_n X dX0_leads_4 rfl (lv_at hl 2 rfl) ?_
  obtain ⟨hi, hV⟩ := hV
  refine x_lald X hw lx21 rfl rfl hi dX0_leads_5 ?_
  refine x_iload_n X dX0_leads_6 rfl (lv_at hl 1 rfl) ?_
  refine x_lshr X dX0_leads_7 ?_
  refine x_lconst X 1 dX0_leads_8 rfl ?_
  refine x_land X dX0_leads_9 ?_
  refine x_lconst X 1 dX0_leads_10 rfl ?_
  refine x_lcmp_ne X rfl k64_1 19 dX0_leads_11 dX0_leads_12 (by decide) (fun hc => ?_) (fun hc => ?_)
  · replace hV := hV.1 hc
    refine x_iconst X dX0_leads_19 ?_
    exact hret 0 σ H locs ls 20 (by decide) hV hw dX0_leads_20
  · replace hV := hV.2 hc
    refine x_iconst X dX0_leads_15 ?_
    refine x_goto X 20 dX0_leads_16 (by decide) ?_
    exact hret 1 σ H locs ls 20 (by decide) hV hw dX0_leads_20

theorem n_Ground_isFree_0 : Cond.fieldLink RX0 31 "LacePillow$Ground" "before" "[J" ∈ wsX0_isFree := by decide +kernel
theorem n_Ground_isFree_1 : ∀ w ∈ wsX00, w ∈ wsX0_isFree := by decide +kernel
theorem n_Ground_isFree_2 : Cond.constantLong RX0 60 (-1) ∈ wsX0_isFree := by decide +kernel
set_option maxHeartbeats 4000000 in
set_option maxRecDepth 100000 in
theorem c_Ground_isFree (l : Launch) (G : GT) (ad : Nat → Nat) (hI : Inj LX ad) (σ : St) (a1 : Int) (a2 : Int) {Q : Int → St → Prop} (hV : V_Ground_isFree σ a1 a2 Q) : Met l yX0_isFree wsX0_isFree (rmx 0 0) (Pq vwCl G LX ad σ [.ref (ad 16), iV a1, lV a2]) (Qz vwCl G LX ad Q) 0 0 (Ax LX ad) := by
  unfold V_Ground_isFree at hV
  refine x_metz (own := RX0) (by decide) rfl rfl (Nat.le_of_ble_eq_true rfl) hI ?_
  intro p e s m args below meth c R QQ X hR hret ls hl hw
  replace hl : lv_has ls 4 [(0, .ref (ad 16)), (1, iV a1), (2, lV a2)] := hl
  obtain ⟨H, hH⟩ : ∃ z, z = s.heap := ⟨_, rfl⟩
  obtain ⟨locs, hlo⟩ : ∃ z : List Loc, z = [] := ⟨_, rfl⟩
  rw [← hH, ← hlo]
  replace hw : Wx vwCl G LX ad s H locs σ := by rw [hH, hlo]; exact hw
  clear hH hlo
  refine x_lload_n X dX0_isFree_0 rfl (lv_at hl 2 rfl) ?_
  refine x_iload_n X dX0_isFree_1 rfl (lv_at hl 1 rfl) ?_
  refine x_lshr X dX0_isFree_2 ?_
  refine x_lconst X 1 dX0_isFree_3 rfl ?_
  refine x_land X dX0_isFree_4 ?_
  refine x_lconst X 0 dX0_isFree_5 rfl ?_
  refine x_lcmp_ne X rfl k64_0 31 dX0_isFree_6 dX0_isFree_7 (by decide) (fun hc => ?_) (fun hc => ?_)
  · replace hV := hV.1 hc
    refine x_iconst X dX0_isFree_31 ?_
    exact hret 0 σ H locs ls 32 (by decide) hV hw dX0_isFree_32
  · replace hV := hV.2 hc
    refine x_aload_n X dX0_isFree_10 rfl (lv_at hl 0 rfl) ?_
    refine x_getr X hw lx16 cX0 6 (by decide) rfl n_Ground_isFree_1 n_Ground_isFree_0 dX0_isFree_11 ?_
    refine x_iload_n X dX0_isFree_14 rfl (lv_at hl 1 rfl) ?_
    obtain ⟨hi, hV⟩ := hV
    refine x_lald X hw lx21 rfl rfl hi dX0_isFree_15 ?_
    refine x_lload_n X dX0_isFree_16 rfl (lv_at hl 2 rfl) ?_
    refine x_ldc2 X (-1) n_Ground_isFree_2 (by decide) dX0_isFree_17 ?_
    refine x_lxor X dX0_isFree_20 ?_
    refine x_land X dX0_isFree_21 ?_
    refine x_lconst X 0 dX0_isFree_22 rfl ?_
    refine x_lcmp_ne X rfl k64_0 31 dX0_isFree_23 dX0_isFree_24 (by decide) (fun hc => ?_) (fun hc => ?_)
    · replace hV := hV.1 hc
      refine x_iconst X dX0_isFree_31 ?_
      exact hret 0 σ H locs ls 32 (by decide) hV hw dX0_isFree_32
    · replace hV := hV.2 hc
      refine x_iconst X dX0_isFree_27 ?_
      refine x_goto X 32 dX0_isFree_28 (by decide) ?_
      exact hret 1 σ H locs ls 32 (by decide) hV hw dX0_isFree_32

theorem n_Ground_countFree_0 : Cond.fieldLink RX0 9 "LacePillow$Ground" "size" "I" ∈ wsX0_countFree := by decide +kernel
theorem n_Ground_countFree_1 : ∀ w ∈ wsX00, w ∈ wsX0_countFree := by decide +kernel
set_option maxHeartbeats 4000000 in
set_option maxRecDepth 100000 in
theorem c_Ground_countFree (l : Launch) (G : GT) (ad : Nat → Nat) (hI : Inj LX ad) (σ : St) (a1 : Int) {Q : Int → St → Prop} (hV : V_Ground_countFree σ a1 Q) : Met l yX0_countFree wsX0_countFree (rmx 1 23) (Pq vwCl G LX ad σ [.ref (ad 16), lV a1]) (Qi vwCl G LX ad Q) 0 0 (Ax LX ad) := by
  unfold V_Ground_countFree at hV
  refine x_meti (own := RX0) (by decide) rfl rfl (Nat.le_of_ble_eq_true rfl) hI ?_
  intro p e s m args below meth c R QQ X hR hret ls hl hw
  replace hl : lv_has ls 5 [(0, .ref (ad 16)), (1, lV a1)] := hl
  obtain ⟨H, hH⟩ : ∃ z, z = s.heap := ⟨_, rfl⟩
  obtain ⟨locs, hlo⟩ : ∃ z : List Loc, z = [] := ⟨_, rfl⟩
  rw [← hH, ← hlo]
  replace hw : Wx vwCl G LX ad s H locs σ := by rw [hH, hlo]; exact hw
  clear hH hlo
  refine x_iconst X dX0_countFree_0 ?_
  refine x_istore_n X [(3, iV 0), (0, .ref (ad 16)), (1, lV a1)] dX0_countFree_1 rfl hl (by decide) rfl (fun ls hl => ?_)
  refine x_iconst X dX0_countFree_2 ?_
  refine x_istore X [(4, iV 0), (3, iV 0), (0, .ref (ad 16)), (1, lV a1)] dX0_countFree_3 hl (by decide) rfl (fun ls hl => ?_)
  refine WL2.use (Gl := fun x4_1 x3_2 σ3 => ∀ (H : Heap) (locs : List Loc) (ls : Array Slot), Wx vwCl G LX ad s H locs σ3 → lv_has ls 5 [(4, iV x4_1), (3, iV x3_2), (0, .ref (ad 16)), (1, lV a1)] → W p l e R s m args below meth c H locs 0 0 QQ (F0 m 5 ls [])) ?_ hV H locs ls hw hl
  clear hV hw hl H locs ls
  intro bk4 x4_1 x3_2 σ3 hbk4 hV H locs ls hw hl
  refine x_iload X dX0_countFree_5 (lv_at hl 0 rfl) ?_
  refine x_aload_n X dX0_countFree_7 rfl (lv_at hl 2 rfl) ?_
  refine x_geti X hw lx16 cX0 0 (by decide) rfl n_Ground_countFree_1 n_Ground_countFree_0 dX0_countFree_8 ?_
  refine x_icmp_ge X rfl rfl 33 dX0_countFree_11 (by decide) (fun hc => ?_) (fun hc => ?_)
  · replace hV := hV.1 hc
    refine x_iload_n X dX0_countFree_33 rfl (lv_at hl 1 rfl) ?_
    exact hret x3_2 σ3 H locs ls 34 hV hw dX0_countFree_34
  · replace hV := hV.2 hc
    refine x_aload_n X dX0_countFree_14 rfl (lv_at hl 2 rfl) ?_
    refine x_iload X dX0_countFree_15 (lv_at hl 0 rfl) ?_
    refine x_lload_n X dX0_countFree_17 rfl (lv_at hl 3 rfl) ?_
    refine x_cvz X hw [iV x4_1, lV a1] [] (c_Ground_isFree l G ad hI σ3 x4_1 a1 hV) (cwV 2 X.2.2.2.2 gX0_countFree_X0_isFree rfl rfl rfl hd_Ground_isFree ⟨x_fr hR.1 rfl, x_fr hR.2 rfl⟩) lx16 cX0 rfl hl.1 rfl (Nat.le_of_ble_eq_true rfl) dX0_countFree_18 ⟨Nat.zero_le _, Nat.zero_le _⟩ (fun r6 σ5 H locs hr6 hV hw => ?_)
    refine x_if_eq X rfl 27 dX0_countFree_21 (by decide) (fun hc => ?_) (fun hc => ?_)
    · replace hV := hV.1 hc
      refine x_iinc X (k := 0) (x4_1 + 1) [(4, iV (x4_1 + 1)), (3, iV x3_2), (0, .ref (ad 16)), (1, lV a1)] dX0_countFree_27 hl rfl rfl (by decide) rfl (fun ls hl => ?_)
      refine x_goto X 5 dX0_countFree_30 (by decide) ?_
      exact hbk4 (x4_1 + 1) x3_2 σ5 hV H locs ls hw hl
    · replace hV := hV.2 hc
      refine x_iinc X (k := 1) (x3_2 + 1) [(3, iV (x3_2 + 1)), (4, iV x4_1), (0, .ref (ad 16)), (1, lV a1)] dX0_countFree_24 hl rfl rfl (by decide) rfl (fun ls hl => ?_)
      refine x_iinc X (k := 1) (x4_1 + 1) [(4, iV (x4_1 + 1)), (3, iV (x3_2 + 1)), (0, .ref (ad 16)), (1, lV a1)] dX0_countFree_27 hl rfl rfl (by decide) rfl (fun ls hl => ?_)
      refine x_goto X 5 dX0_countFree_30 (by decide) ?_
      exact hbk4 (x4_1 + 1) (x3_2 + 1) σ5 hV H locs ls hw hl

theorem n_Ground_leastFree_0 : Cond.fieldLink RX0 9 "LacePillow$Ground" "size" "I" ∈ wsX0_leastFree := by decide +kernel
theorem n_Ground_leastFree_1 : ∀ w ∈ wsX00, w ∈ wsX0_leastFree := by decide +kernel
set_option maxHeartbeats 4000000 in
set_option maxRecDepth 100000 in
theorem c_Ground_leastFree (l : Launch) (G : GT) (ad : Nat → Nat) (hI : Inj LX ad) (σ : St) (a1 : Int) {Q : Int → St → Prop} (hV : V_Ground_leastFree σ a1 Q) : Met l yX0_leastFree wsX0_leastFree (rmx 1 23) (Pq vwCl G LX ad σ [.ref (ad 16), lV a1]) (Qi vwCl G LX ad Q) 0 0 (Ax LX ad) := by
  unfold V_Ground_leastFree at hV
  refine x_meti (own := RX0) (by decide) rfl rfl (Nat.le_of_ble_eq_true rfl) hI ?_
  intro p e s m args below meth c R QQ X hR hret ls hl hw
  replace hl : lv_has ls 4 [(0, .ref (ad 16)), (1, lV a1)] := hl
  obtain ⟨H, hH⟩ : ∃ z, z = s.heap := ⟨_, rfl⟩
  obtain ⟨locs, hlo⟩ : ∃ z : List Loc, z = [] := ⟨_, rfl⟩
  rw [← hH, ← hlo]
  replace hw : Wx vwCl G LX ad s H locs σ := by rw [hH, hlo]; exact hw
  clear hH hlo
  refine x_iconst X dX0_leastFree_0 ?_
  refine x_istore_n X [(3, iV 0), (0, .ref (ad 16)), (1, lV a1)] dX0_leastFree_1 rfl hl (by decide) rfl (fun ls hl => ?_)
  refine WL1.use (Gl := fun x3_1 σ2 => ∀ (H : Heap) (locs : List Loc) (ls : Array Slot), Wx vwCl G LX ad s H locs σ2 → lv_has ls 4 [(3, iV x3_1), (0, .ref (ad 16)), (1, lV a1)] → W p l e R s m args below meth c H locs 0 0 QQ (F0 m 2 ls [])) ?_ hV H locs ls hw hl
  clear hV hw hl H locs ls
  intro bk3 x3_1 σ2 hbk3 hV H locs ls hw hl
  refine x_iload_n X dX0_leastFree_2 rfl (lv_at hl 0 rfl) ?_
  refine x_aload_n X dX0_leastFree_3 rfl (lv_at hl 1 rfl) ?_
  refine x_geti X hw lx16 cX0 0 (by decide) rfl n_Ground_leastFree_1 n_Ground_leastFree_0 dX0_leastFree_4 ?_
  refine x_icmp_ge X rfl rfl 27 dX0_leastFree_7 (by decide) (fun hc => ?_) (fun hc => ?_)
  · replace hV := hV.1 hc
    refine x_iconst X dX0_leastFree_27 ?_
    exact hret (-1) σ2 H locs ls 28 hV hw dX0_leastFree_28
  · replace hV := hV.2 hc
    refine x_aload_n X dX0_leastFree_10 rfl (lv_at hl 1 rfl) ?_
    refine x_iload_n X dX0_leastFree_11 rfl (lv_at hl 0 rfl) ?_
    refine x_lload_n X dX0_leastFree_12 rfl (lv_at hl 2 rfl) ?_
    refine x_cvz X hw [iV x3_1, lV a1] [] (c_Ground_isFree l G ad hI σ2 x3_1 a1 hV) (cwV 2 X.2.2.2.2 gX0_leastFree_X0_isFree rfl rfl rfl hd_Ground_isFree ⟨x_fr hR.1 rfl, x_fr hR.2 rfl⟩) lx16 cX0 rfl hl.1 rfl (Nat.le_of_ble_eq_true rfl) dX0_leastFree_13 ⟨Nat.zero_le _, Nat.zero_le _⟩ (fun r5 σ4 H locs hr5 hV hw => ?_)
    refine x_if_eq X rfl 21 dX0_leastFree_16 (by decide) (fun hc => ?_) (fun hc => ?_)
    · replace hV := hV.1 hc
      refine x_iinc X (k := 0) (x3_1 + 1) [(3, iV (x3_1 + 1)), (0, .ref (ad 16)), (1, lV a1)] dX0_leastFree_21 hl rfl rfl (by decide) rfl (fun ls hl => ?_)
      refine x_goto X 2 dX0_leastFree_24 (by decide) ?_
      exact hbk3 (x3_1 + 1) σ4 hV H locs ls hw hl
    · replace hV := hV.2 hc
      refine x_iload_n X dX0_leastFree_19 rfl (lv_at hl 0 rfl) ?_
      exact hret x3_1 σ4 H locs ls 20 hV hw dX0_leastFree_20

theorem n_Ground_countBehind_0 : Cond.fieldLink RX0 9 "LacePillow$Ground" "size" "I" ∈ wsX0_countBehind := by decide +kernel
theorem n_Ground_countBehind_1 : ∀ w ∈ wsX00, w ∈ wsX0_countBehind := by decide +kernel
set_option maxHeartbeats 4000000 in
set_option maxRecDepth 100000 in
theorem c_Ground_countBehind (l : Launch) (G : GT) (ad : Nat → Nat) (hI : Inj LX ad) (σ : St) (a1 : Int) {Q : Int → St → Prop} (hV : V_Ground_countBehind σ a1 Q) : Met l yX0_countBehind wsX0_countBehind (rmx 1 22) (Pq vwCl G LX ad σ [.ref (ad 16), iV a1]) (Qi vwCl G LX ad Q) 0 0 (Ax LX ad) := by
  unfold V_Ground_countBehind at hV
  refine x_meti (own := RX0) (by decide) rfl rfl (Nat.le_of_ble_eq_true rfl) hI ?_
  intro p e s m args below meth c R QQ X hR hret ls hl hw
  replace hl : lv_has ls 4 [(0, .ref (ad 16)), (1, iV a1)] := hl
  obtain ⟨H, hH⟩ : ∃ z, z = s.heap := ⟨_, rfl⟩
  obtain ⟨locs, hlo⟩ : ∃ z : List Loc, z = [] := ⟨_, rfl⟩
  rw [← hH, ← hlo]
  replace hw : Wx vwCl G LX ad s H locs σ := by rw [hH, hlo]; exact hw
  clear hH hlo
  refine x_iconst X dX0_countBehind_0 ?_
  refine x_istore_n X [(2, iV 0), (0, .ref (ad 16)), (1, iV a1)] dX0_countBehind_1 rfl hl (by decide) rfl (fun ls hl => ?_)
  refine x_iconst X dX0_countBehind_2 ?_
  refine x_istore_n X [(3, iV 0), (2, iV 0), (0, .ref (ad 16)), (1, iV a1)] dX0_countBehind_3 rfl hl (by decide) rfl (fun ls hl => ?_)
  refine WL2.use (Gl := fun x3_1 x2_2 σ3 => ∀ (H : Heap) (locs : List Loc) (ls : Array Slot), Wx vwCl G LX ad s H locs σ3 → lv_has ls 4 [(3, iV x3_1), (2, iV x2_2), (0, .ref (ad 16)), (1, iV a1)] → W p l e R s m args below meth c H locs 0 0 QQ (F0 m 4 ls [])) ?_ hV H locs ls hw hl
  clear hV hw hl H locs ls
  intro bk4 x3_1 x2_2 σ3 hbk4 hV H locs ls hw hl
  refine x_iload_n X dX0_countBehind_4 rfl (lv_at hl 0 rfl) ?_
  refine x_aload_n X dX0_countBehind_5 rfl (lv_at hl 2 rfl) ?_
  refine x_geti X hw lx16 cX0 0 (by decide) rfl n_Ground_countBehind_1 n_Ground_countBehind_0 dX0_countBehind_6 ?_
  refine x_icmp_ge X rfl rfl 30 dX0_countBehind_9 (by decide) (fun hc => ?_) (fun hc => ?_)
  · replace hV := hV.1 hc
    refine x_iload_n X dX0_countBehind_30 rfl (lv_at hl 1 rfl) ?_
    exact hret x2_2 σ3 H locs ls 31 hV hw dX0_countBehind_31
  · replace hV := hV.2 hc
    refine x_aload_n X dX0_countBehind_12 rfl (lv_at hl 2 rfl) ?_
    refine x_iload_n X dX0_countBehind_13 rfl (lv_at hl 3 rfl) ?_
    refine x_iload_n X dX0_countBehind_14 rfl (lv_at hl 0 rfl) ?_
    refine x_cvz X hw [iV a1, iV x3_1] [] (c_Ground_leads l G ad hI σ3 a1 x3_1 hV) (cwV 2 X.2.2.2.2 gX0_countBehind_X0_leads rfl rfl rfl hd_Ground_leads ⟨x_fr hR.1 rfl, x_fr hR.2 rfl⟩) lx16 cX0 rfl hl.1 rfl (Nat.le_of_ble_eq_true rfl) dX0_countBehind_15 ⟨Nat.zero_le _, Nat.zero_le _⟩ (fun r6 σ5 H locs hr6 hV hw => ?_)
    refine x_if_eq X rfl 24 dX0_countBehind_18 (by decide) (fun hc => ?_) (fun hc => ?_)
    · replace hV := hV.1 hc
      refine x_iinc X (k := 0) (x3_1 + 1) [(3, iV (x3_1 + 1)), (2, iV x2_2), (0, .ref (ad 16)), (1, iV a1)] dX0_countBehind_24 hl rfl rfl (by decide) rfl (fun ls hl => ?_)
      refine x_goto X 4 dX0_countBehind_27 (by decide) ?_
      exact hbk4 (x3_1 + 1) x2_2 σ5 hV H locs ls hw hl
    · replace hV := hV.2 hc
      refine x_iinc X (k := 1) (x2_2 + 1) [(2, iV (x2_2 + 1)), (3, iV x3_1), (0, .ref (ad 16)), (1, iV a1)] dX0_countBehind_21 hl rfl rfl (by decide) rfl (fun ls hl => ?_)
      refine x_iinc X (k := 1) (x3_1 + 1) [(3, iV (x3_1 + 1)), (2, iV (x2_2 + 1)), (0, .ref (ad 16)), (1, iV a1)] dX0_countBehind_24 hl rfl rfl (by decide) rfl (fun ls hl => ?_)
      refine x_goto X 4 dX0_countBehind_27 (by decide) ?_
      exact hbk4 (x3_1 + 1) (x2_2 + 1) σ5 hV H locs ls hw hl

theorem n_Ground_longestChain_0 : Cond.fieldLink RX0 9 "LacePillow$Ground" "size" "I" ∈ wsX0_longestChain := by decide +kernel
theorem n_Ground_longestChain_1 : ∀ w ∈ wsX00, w ∈ wsX0_longestChain := by decide +kernel
theorem n_Ground_longestChain_2 : Cond.fieldLink RX0 28 "LacePillow$Ground" "levels" "[I" ∈ wsX0_longestChain := by decide +kernel
theorem n_Ground_longestChain_3 : Cond.methodLink RX0 56 Lib.Math.max.name ∈ wsX0_longestChain := by decide +kernel
theorem n_Ground_longestChain_4 : Cond.static Lib.Math.max.name ∈ wsX0_longestChain := by decide +kernel
theorem n_Ground_longestChain_5 : Cond.initialized "java/lang/Math" ∈ wsX0_longestChain := by decide +kernel
theorem n_Ground_longestChain_6 : Cond.code Lib.Math.max.name Lib.Math.max.code 2 (some .int) ∈ wsX0_longestChain := by decide +kernel
set_option maxHeartbeats 4000000 in
set_option maxRecDepth 100000 in
theorem c_Ground_longestChain (l : Launch) (G : GT) (ad : Nat → Nat) (hI : Inj LX ad) (σ : St) {Q : Int → St → Prop} (hV : V_Ground_longestChain σ Q) : Met l yX0_longestChain wsX0_longestChain (rmx 1 30) (Pq vwCl G LX ad σ [.ref (ad 16)]) (Qi vwCl G LX ad Q) 0 0 (Ax LX ad) := by
  unfold V_Ground_longestChain at hV
  refine x_meti (own := RX0) (by decide) rfl rfl (Nat.le_of_ble_eq_true rfl) hI ?_
  intro p e s m args below meth c R QQ X hR hret ls hl hw
  replace hl : lv_has ls 3 [(0, .ref (ad 16))] := hl
  obtain ⟨H, hH⟩ : ∃ z, z = s.heap := ⟨_, rfl⟩
  obtain ⟨locs, hlo⟩ : ∃ z : List Loc, z = [] := ⟨_, rfl⟩
  rw [← hH, ← hlo]
  replace hw : Wx vwCl G LX ad s H locs σ := by rw [hH, hlo]; exact hw
  clear hH hlo
  refine x_iconst X dX0_longestChain_0 ?_
  refine x_istore_n X [(1, iV 0), (0, .ref (ad 16))] dX0_longestChain_1 rfl hl (by decide) rfl (fun ls hl => ?_)
  refine x_iconst X dX0_longestChain_2 ?_
  refine x_istore_n X [(2, iV 0), (1, iV 0), (0, .ref (ad 16))] dX0_longestChain_3 rfl hl (by decide) rfl (fun ls hl => ?_)
  refine WL2.use (Gl := fun x2_1 x1_2 σ3 => ∀ (H : Heap) (locs : List Loc) (ls : Array Slot), Wx vwCl G LX ad s H locs σ3 → lv_has ls 3 [(2, iV x2_1), (1, iV x1_2), (0, .ref (ad 16))] → W p l e R s m args below meth c H locs 0 0 QQ (F0 m 4 ls [])) ?_ hV H locs ls hw hl
  clear hV hw hl H locs ls
  intro bk4 x2_1 x1_2 σ3 hbk4 hV H locs ls hw hl
  refine x_iload_n X dX0_longestChain_4 rfl (lv_at hl 0 rfl) ?_
  refine x_aload_n X dX0_longestChain_5 rfl (lv_at hl 2 rfl) ?_
  refine x_geti X hw lx16 cX0 0 (by decide) rfl n_Ground_longestChain_1 n_Ground_longestChain_0 dX0_longestChain_6 ?_
  refine x_icmp_ge X rfl rfl 31 dX0_longestChain_9 (by decide) (fun hc => ?_) (fun hc => ?_)
  · replace hV := hV.1 hc
    refine x_iload_n X dX0_longestChain_31 rfl (lv_at hl 1 rfl) ?_
    exact hret x1_2 σ3 H locs ls 32 hV hw dX0_longestChain_32
  · replace hV := hV.2 hc
    refine x_iload_n X dX0_longestChain_12 rfl (lv_at hl 1 rfl) ?_
    refine x_aload_n X dX0_longestChain_13 rfl (lv_at hl 2 rfl) ?_
    refine x_getr X hw lx16 cX0 5 (by decide) rfl n_Ground_longestChain_1 n_Ground_longestChain_2 dX0_longestChain_14 ?_
    refine x_iload_n X dX0_longestChain_17 rfl (lv_at hl 0 rfl) ?_
    obtain ⟨hi, hV⟩ := hV
    refine x_iald X hw lx20 rfl rfl hi dX0_longestChain_18 ?_
    refine x_iconst X dX0_longestChain_19 ?_
    refine x_iadd X dX0_longestChain_20 ?_
    refine x_mmax X hl.1 n_Ground_longestChain_3 n_Ground_longestChain_4 n_Ground_longestChain_5 n_Ground_longestChain_6 (x_fr hR.1 rfl) (x_fr hR.2 rfl) ⟨Nat.zero_le _, Nat.zero_le _⟩ dX0_longestChain_21 ?_
    refine x_bi (fun x1_5 ex1_5 => ?_)
    replace hV := hV x1_5 ex1_5
    clear ex1_5
    refine x_istore_n X [(1, iV x1_5), (2, iV x2_1), (0, .ref (ad 16))] dX0_longestChain_24 rfl hl (by decide) rfl (fun ls hl => ?_)
    refine x_iinc X (k := 1) (x2_1 + 1) [(2, iV (x2_1 + 1)), (1, iV x1_5), (0, .ref (ad 16))] dX0_longestChain_25 hl rfl rfl (by decide) rfl (fun ls hl => ?_)
    refine x_goto X 4 dX0_longestChain_28 (by decide) ?_
    exact hbk4 (x2_1 + 1) x1_5 σ3 hV H locs ls hw hl

theorem n_Ground_widestLeftOf_0 : Cond.fieldLink RX0 9 "LacePillow$Ground" "size" "I" ∈ wsX0_widestLeftOf := by decide +kernel
theorem n_Ground_widestLeftOf_1 : ∀ w ∈ wsX00, w ∈ wsX0_widestLeftOf := by decide +kernel
theorem n_Ground_widestLeftOf_2 : Cond.fieldLink RX0 22 "LacePillow$Ground" "gaps" "[I" ∈ wsX0_widestLeftOf := by decide +kernel
theorem n_Ground_widestLeftOf_3 : Cond.fieldLink RX0 35 "LacePillow$Ground" "wides" "[I" ∈ wsX0_widestLeftOf := by decide +kernel
theorem n_Ground_widestLeftOf_4 : Cond.methodLink RX0 56 Lib.Math.max.name ∈ wsX0_widestLeftOf := by decide +kernel
theorem n_Ground_widestLeftOf_5 : Cond.static Lib.Math.max.name ∈ wsX0_widestLeftOf := by decide +kernel
theorem n_Ground_widestLeftOf_6 : Cond.initialized "java/lang/Math" ∈ wsX0_widestLeftOf := by decide +kernel
theorem n_Ground_widestLeftOf_7 : Cond.code Lib.Math.max.name Lib.Math.max.code 2 (some .int) ∈ wsX0_widestLeftOf := by decide +kernel
set_option maxHeartbeats 4000000 in
set_option maxRecDepth 100000 in
theorem c_Ground_widestLeftOf (l : Launch) (G : GT) (ad : Nat → Nat) (hI : Inj LX ad) (σ : St) (a1 : Int) {Q : Int → St → Prop} (hV : V_Ground_widestLeftOf σ a1 Q) : Met l yX0_widestLeftOf wsX0_widestLeftOf (rmx 1 30) (Pq vwCl G LX ad σ [.ref (ad 16), iV a1]) (Qi vwCl G LX ad Q) 0 0 (Ax LX ad) := by
  unfold V_Ground_widestLeftOf at hV
  refine x_meti (own := RX0) (by decide) rfl rfl (Nat.le_of_ble_eq_true rfl) hI ?_
  intro p e s m args below meth c R QQ X hR hret ls hl hw
  replace hl : lv_has ls 4 [(0, .ref (ad 16)), (1, iV a1)] := hl
  obtain ⟨H, hH⟩ : ∃ z, z = s.heap := ⟨_, rfl⟩
  obtain ⟨locs, hlo⟩ : ∃ z : List Loc, z = [] := ⟨_, rfl⟩
  rw [← hH, ← hlo]
  replace hw : Wx vwCl G LX ad s H locs σ := by rw [hH, hlo]; exact hw
  clear hH hlo
  refine x_iconst X dX0_widestLeftOf_0 ?_
  refine x_istore_n X [(2, iV 0), (0, .ref (ad 16)), (1, iV a1)] dX0_widestLeftOf_1 rfl hl (by decide) rfl (fun ls hl => ?_)
  refine x_iconst X dX0_widestLeftOf_2 ?_
  refine x_istore_n X [(3, iV 0), (2, iV 0), (0, .ref (ad 16)), (1, iV a1)] dX0_widestLeftOf_3 rfl hl (by decide) rfl (fun ls hl => ?_)
  refine WL2.use (Gl := fun x3_1 x2_2 σ3 => ∀ (H : Heap) (locs : List Loc) (ls : Array Slot), Wx vwCl G LX ad s H locs σ3 → lv_has ls 4 [(3, iV x3_1), (2, iV x2_2), (0, .ref (ad 16)), (1, iV a1)] → W p l e R s m args below meth c H locs 0 0 QQ (F0 m 4 ls [])) ?_ hV H locs ls hw hl
  clear hV hw hl H locs ls
  intro bk4 x3_1 x2_2 σ3 hbk4 hV H locs ls hw hl
  refine x_iload_n X dX0_widestLeftOf_4 rfl (lv_at hl 0 rfl) ?_
  refine x_aload_n X dX0_widestLeftOf_5 rfl (lv_at hl 2 rfl) ?_
  refine x_geti X hw lx16 cX0 0 (by decide) rfl n_Ground_widestLeftOf_1 n_Ground_widestLeftOf_0 dX0_widestLeftOf_6 ?_
  refine x_icmp_ge X rfl rfl 62 dX0_widestLeftOf_9 (by decide) (fun hc => ?_) (fun hc => ?_)
  · replace hV := hV.1 hc
    refine x_iload_n X dX0_widestLeftOf_62 rfl (lv_at hl 1 rfl) ?_
    exact hret x2_2 σ3 H locs ls 63 hV hw dX0_widestLeftOf_63
  · replace hV := hV.2 hc
    refine x_aload_n X dX0_widestLeftOf_12 rfl (lv_at hl 2 rfl) ?_
    refine x_getr X hw lx16 cX0 3 (by decide) rfl n_Ground_widestLeftOf_1 n_Ground_widestLeftOf_2 dX0_widestLeftOf_13 ?_
    refine x_iload_n X dX0_widestLeftOf_16 rfl (lv_at hl 0 rfl) ?_
    obtain ⟨hi, hV⟩ := hV
    refine x_iald X hw lx18 rfl rfl hi dX0_widestLeftOf_17 ?_
    refine x_aload_n X dX0_widestLeftOf_18 rfl (lv_at hl 2 rfl) ?_
    refine x_getr X hw lx16 cX0 3 (by decide) rfl n_Ground_widestLeftOf_1 n_Ground_widestLeftOf_2 dX0_widestLeftOf_19 ?_
    refine x_iload_n X dX0_widestLeftOf_22 rfl (lv_at hl 3 rfl) ?_
    obtain ⟨hi, hV⟩ := hV
    refine x_iald X hw lx18 rfl rfl hi dX0_widestLeftOf_23 ?_
    refine x_icmp_ge X rfl rfl 56 dX0_widestLeftOf_24 (by decide) (fun hc => ?_) (fun hc => ?_)
    · replace hV := hV.1 hc
      refine x_iinc X (k := 0) (x3_1 + 1) [(3, iV (x3_1 + 1)), (2, iV x2_2), (0, .ref (ad 16)), (1, iV a1)] dX0_widestLeftOf_56 hl rfl rfl (by decide) rfl (fun ls hl => ?_)
      refine x_goto X 4 dX0_widestLeftOf_59 (by decide) ?_
      exact hbk4 (x3_1 + 1) x2_2 σ3 hV H locs ls hw hl
    · replace hV := hV.2 hc
      refine x_aload_n X dX0_widestLeftOf_27 rfl (lv_at hl 2 rfl) ?_
      refine x_iload_n X dX0_widestLeftOf_28 rfl (lv_at hl 3 rfl) ?_
      refine x_iload_n X dX0_widestLeftOf_29 rfl (lv_at hl 0 rfl) ?_
      refine x_cvz X hw [iV a1, iV x3_1] [] (c_Ground_leads l G ad hI σ3 a1 x3_1 hV) (cwV 2 X.2.2.2.2 gX0_widestLeftOf_X0_leads rfl rfl rfl hd_Ground_leads ⟨x_fr hR.1 rfl, x_fr hR.2 rfl⟩) lx16 cX0 rfl hl.1 rfl (Nat.le_of_ble_eq_true rfl) dX0_widestLeftOf_30 ⟨Nat.zero_le _, Nat.zero_le _⟩ (fun r6 σ5 H locs hr6 hV hw => ?_)
      refine x_if_ne X rfl 56 dX0_widestLeftOf_33 (by decide) (fun hc => ?_) (fun hc => ?_)
      · replace hV := hV.1 hc
        refine x_iinc X (k := 0) (x3_1 + 1) [(3, iV (x3_1 + 1)), (2, iV x2_2), (0, .ref (ad 16)), (1, iV a1)] dX0_widestLeftOf_56 hl rfl rfl (by decide) rfl (fun ls hl => ?_)
        refine x_goto X 4 dX0_widestLeftOf_59 (by decide) ?_
        exact hbk4 (x3_1 + 1) x2_2 σ5 hV H locs ls hw hl
      · replace hV := hV.2 hc
        refine x_aload_n X dX0_widestLeftOf_36 rfl (lv_at hl 2 rfl) ?_
        refine x_iload_n X dX0_widestLeftOf_37 rfl (lv_at hl 0 rfl) ?_
        refine x_iload_n X dX0_widestLeftOf_38 rfl (lv_at hl 3 rfl) ?_
        refine x_cvz X hw [iV x3_1, iV a1] [] (c_Ground_leads l G ad hI σ5 x3_1 a1 hV) (cwV 2 X.2.2.2.2 gX0_widestLeftOf_X0_leads rfl rfl rfl hd_Ground_leads ⟨x_fr hR.1 rfl, x_fr hR.2 rfl⟩) lx16 cX0 rfl hl.1 rfl (Nat.le_of_ble_eq_true rfl) dX0_widestLeftOf_39 ⟨Nat.zero_le _, Nat.zero_le _⟩ (fun r8 σ7 H locs hr8 hV hw => ?_)
        refine x_if_ne X rfl 56 dX0_widestLeftOf_42 (by decide) (fun hc => ?_) (fun hc => ?_)
        · replace hV := hV.1 hc
          refine x_iinc X (k := 0) (x3_1 + 1) [(3, iV (x3_1 + 1)), (2, iV x2_2), (0, .ref (ad 16)), (1, iV a1)] dX0_widestLeftOf_56 hl rfl rfl (by decide) rfl (fun ls hl => ?_)
          refine x_goto X 4 dX0_widestLeftOf_59 (by decide) ?_
          exact hbk4 (x3_1 + 1) x2_2 σ7 hV H locs ls hw hl
        · replace hV := hV.2 hc
          refine x_iload_n X dX0_widestLeftOf_45 rfl (lv_at hl 1 rfl) ?_
          refine x_aload_n X dX0_widestLeftOf_46 rfl (lv_at hl 2 rfl) ?_
          refine x_getr X hw lx16 cX0 7 (by decide) rfl n_Ground_widestLeftOf_1 n_Ground_widestLeftOf_3 dX0_widestLeftOf_47 ?_
          refine x_iload_n X dX0_widestLeftOf_50 rfl (lv_at hl 0 rfl) ?_
          obtain ⟨hi, hV⟩ := hV
          refine x_iald X hw lx22 rfl rfl hi dX0_widestLeftOf_51 ?_
          refine x_mmax X hl.1 n_Ground_widestLeftOf_4 n_Ground_widestLeftOf_5 n_Ground_widestLeftOf_6 n_Ground_widestLeftOf_7 (x_fr hR.1 rfl) (x_fr hR.2 rfl) ⟨Nat.zero_le _, Nat.zero_le _⟩ dX0_widestLeftOf_52 ?_
          refine x_bi (fun x2_9 ex2_9 => ?_)
          replace hV := hV x2_9 ex2_9
          clear ex2_9
          refine x_istore_n X [(2, iV x2_9), (3, iV x3_1), (0, .ref (ad 16)), (1, iV a1)] dX0_widestLeftOf_55 rfl hl (by decide) rfl (fun ls hl => ?_)
          refine x_iinc X (k := 1) (x3_1 + 1) [(3, iV (x3_1 + 1)), (2, iV x2_9), (0, .ref (ad 16)), (1, iV a1)] dX0_widestLeftOf_56 hl rfl rfl (by decide) rfl (fun ls hl => ?_)
          refine x_goto X 4 dX0_widestLeftOf_59 (by decide) ?_
          exact hbk4 (x3_1 + 1) x2_9 σ7 hV H locs ls hw hl

theorem n_Ground_widest_0 : Cond.fieldLink RX0 9 "LacePillow$Ground" "size" "I" ∈ wsX0_widest := by decide +kernel
theorem n_Ground_widest_1 : ∀ w ∈ wsX00, w ∈ wsX0_widest := by decide +kernel
theorem n_Ground_widest_2 : Cond.fieldLink RX0 22 "LacePillow$Ground" "gaps" "[I" ∈ wsX0_widest := by decide +kernel
theorem n_Ground_widest_3 : Cond.fieldLink RX0 35 "LacePillow$Ground" "wides" "[I" ∈ wsX0_widest := by decide +kernel
theorem n_Ground_widest_4 : Cond.methodLink RX0 56 Lib.Math.max.name ∈ wsX0_widest := by decide +kernel
theorem n_Ground_widest_5 : Cond.static Lib.Math.max.name ∈ wsX0_widest := by decide +kernel
theorem n_Ground_widest_6 : Cond.initialized "java/lang/Math" ∈ wsX0_widest := by decide +kernel
theorem n_Ground_widest_7 : Cond.code Lib.Math.max.name Lib.Math.max.code 2 (some .int) ∈ wsX0_widest := by decide +kernel
set_option maxHeartbeats 4000000 in
set_option maxRecDepth 100000 in
theorem c_Ground_widest (l : Launch) (G : GT) (ad : Nat → Nat) (hI : Inj LX ad) (σ : St) {Q : Int → St → Prop} (hV : V_Ground_widest σ Q) : Met l yX0_widest wsX0_widest (rmx 2 53) (Pq vwCl G LX ad σ [.ref (ad 16)]) (Qi vwCl G LX ad Q) 0 0 (Ax LX ad) := by
  unfold V_Ground_widest at hV
  refine x_meti (own := RX0) (by decide) rfl rfl (Nat.le_of_ble_eq_true rfl) hI ?_
  intro p e s m args below meth c R QQ X hR hret ls hl hw
  replace hl : lv_has ls 4 [(0, .ref (ad 16))] := hl
  obtain ⟨H, hH⟩ : ∃ z, z = s.heap := ⟨_, rfl⟩
  obtain ⟨locs, hlo⟩ : ∃ z : List Loc, z = [] := ⟨_, rfl⟩
  rw [← hH, ← hlo]
  replace hw : Wx vwCl G LX ad s H locs σ := by rw [hH, hlo]; exact hw
  clear hH hlo
  refine x_iconst X dX0_widest_0 ?_
  refine x_istore_n X [(1, iV 0), (0, .ref (ad 16))] dX0_widest_1 rfl hl (by decide) rfl (fun ls hl => ?_)
  refine x_iconst X dX0_widest_2 ?_
  refine x_istore_n X [(2, iV 0), (1, iV 0), (0, .ref (ad 16))] dX0_widest_3 rfl hl (by decide) rfl (fun ls hl => ?_)
  refine WL2.use (Gl := fun x2_1 x1_2 σ3 => ∀ (H : Heap) (locs : List Loc) (ls : Array Slot), Wx vwCl G LX ad s H locs σ3 → lv_has ls 4 [(2, iV x2_1), (1, iV x1_2), (0, .ref (ad 16))] → W p l e R s m args below meth c H locs 0 0 QQ (F0 m 4 ls [])) ?_ hV H locs ls hw hl
  clear hV hw hl H locs ls
  intro bk4 x2_1 x1_2 σ3 hbk4 hV H locs ls hw hl
  refine x_iload_n X dX0_widest_4 rfl (lv_at hl 0 rfl) ?_
  refine x_bipush X dX0_widest_5 (by decide) ?_
  refine x_icmp_ge X rfl k32_7 66 dX0_widest_7 (by decide) (fun hc => ?_) (fun hc => ?_)
  · replace hV := hV.1 hc
    refine x_iload_n X dX0_widest_66 rfl (lv_at hl 1 rfl) ?_
    exact hret x1_2 σ3 H locs ls 67 hV hw dX0_widest_67
  · replace hV := hV.2 hc
    refine x_iconst X dX0_widest_10 ?_
    refine x_istore_n X [(3, iV 0), (2, iV x2_1), (1, iV x1_2), (0, .ref (ad 16))] dX0_widest_11 rfl hl (by decide) rfl (fun ls hl => ?_)
    refine WL2.use (Gl := fun x3_5 x1_6 σ7 => ∀ (H : Heap) (locs : List Loc) (ls : Array Slot), Wx vwCl G LX ad s H locs σ7 → lv_has ls 4 [(3, iV x3_5), (2, iV x2_1), (1, iV x1_6), (0, .ref (ad 16))] → W p l e R s m args below meth c H locs 0 0 QQ (F0 m 12 ls [])) ?_ hV H locs ls hw hl
    clear hV hw hl H locs ls
    intro bk8 x3_5 x1_6 σ7 hbk8 hV H locs ls hw hl
    refine x_iload_n X dX0_widest_12 rfl (lv_at hl 0 rfl) ?_
    refine x_aload_n X dX0_widest_13 rfl (lv_at hl 3 rfl) ?_
    refine x_geti X hw lx16 cX0 0 (by decide) rfl n_Ground_widest_1 n_Ground_widest_0 dX0_widest_14 ?_
    refine x_icmp_ge X rfl rfl 60 dX0_widest_17 (by decide) (fun hc => ?_) (fun hc => ?_)
    · replace hV := hV.1 hc
      refine x_iinc X (k := 1) (x2_1 + 1) [(2, iV (x2_1 + 1)), (3, iV x3_5), (1, iV x1_6), (0, .ref (ad 16))] dX0_widest_60 hl rfl rfl (by decide) rfl (fun ls hl => ?_)
      refine x_goto X 4 dX0_widest_63 (by decide) ?_
      exact hbk4 (x2_1 + 1) x1_6 σ7 hV H locs ls hw (lv_sub hl [0, 2, 3] rfl)
    · replace hV := hV.2 hc
      refine x_aload_n X dX0_widest_20 rfl (lv_at hl 3 rfl) ?_
      refine x_getr X hw lx16 cX0 3 (by decide) rfl n_Ground_widest_1 n_Ground_widest_2 dX0_widest_21 ?_
      refine x_iload_n X dX0_widest_24 rfl (lv_at hl 0 rfl) ?_
      obtain ⟨hi, hV⟩ := hV
      refine x_iald X hw lx18 rfl rfl hi dX0_widest_25 ?_
      refine x_iload_n X dX0_widest_26 rfl (lv_at hl 1 rfl) ?_
      refine x_icmp_ne X rfl rfl 54 dX0_widest_27 (by decide) (fun hc => ?_) (fun hc => ?_)
      · replace hV := hV.1 hc
        refine x_iinc X (k := 0) (x3_5 + 1) [(3, iV (x3_5 + 1)), (2, iV x2_1), (1, iV x1_6), (0, .ref (ad 16))] dX0_widest_54 hl rfl rfl (by decide) rfl (fun ls hl => ?_)
        refine x_goto X 12 dX0_widest_57 (by decide) ?_
        exact hbk8 (x3_5 + 1) x1_6 σ7 hV H locs ls hw hl
      · replace hV := hV.2 hc
        refine x_aload_n X dX0_widest_30 rfl (lv_at hl 3 rfl) ?_
        refine x_getr X hw lx16 cX0 7 (by decide) rfl n_Ground_widest_1 n_Ground_widest_3 dX0_widest_31 ?_
        refine x_iload_n X dX0_widest_34 rfl (lv_at hl 0 rfl) ?_
        refine x_iconst X dX0_widest_35 ?_
        refine x_aload_n X dX0_widest_36 rfl (lv_at hl 3 rfl) ?_
        refine x_iload_n X dX0_widest_37 rfl (lv_at hl 0 rfl) ?_
        refine x_cvi X hw [iV x3_5] [iV 1, iV x3_5, .ref (ad 22)] (c_Ground_widestLeftOf l G ad hI σ7 x3_5 hV) (cwV 1 X.2.2.2.2 gX0_widest_X0_widestLeftOf rfl rfl rfl hd_Ground_widestLeftOf ⟨x_fr hR.1 rfl, x_fr hR.2 rfl⟩) lx16 cX0 rfl hl.1 rfl (Nat.le_of_ble_eq_true rfl) dX0_widest_38 ⟨Nat.zero_le _, Nat.zero_le _⟩ (fun r10 σ9 H locs hV hw => ?_)
        refine x_iadd X dX0_widest_41 ?_
        obtain ⟨hi, hV⟩ := hV
        refine x_iast X hw lx22 rfl rfl hi dX0_widest_42 (fun H locs σ11 hs hw => ?_)
        replace hV := hV σ11 hs
        refine x_iload_n X dX0_widest_43 rfl (lv_at hl 2 rfl) ?_
        refine x_aload_n X dX0_widest_44 rfl (lv_at hl 3 rfl) ?_
        refine x_getr X hw lx16 cX0 7 (by decide) rfl n_Ground_widest_1 n_Ground_widest_3 dX0_widest_45 ?_
        refine x_iload_n X dX0_widest_48 rfl (lv_at hl 0 rfl) ?_
        obtain ⟨hi, hV⟩ := hV
        refine x_iald X hw lx22 rfl rfl hi dX0_widest_49 ?_
        refine x_mmax X hl.1 n_Ground_widest_4 n_Ground_widest_5 n_Ground_widest_6 n_Ground_widest_7 (x_fr hR.1 rfl) (x_fr hR.2 rfl) ⟨Nat.zero_le _, Nat.zero_le _⟩ dX0_widest_50 ?_
        refine x_bi (fun x1_12 ex1_12 => ?_)
        replace hV := hV x1_12 ex1_12
        clear ex1_12
        refine x_istore_n X [(1, iV x1_12), (3, iV x3_5), (2, iV x2_1), (0, .ref (ad 16))] dX0_widest_53 rfl hl (by decide) rfl (fun ls hl => ?_)
        refine x_iinc X (k := 1) (x3_5 + 1) [(3, iV (x3_5 + 1)), (1, iV x1_12), (2, iV x2_1), (0, .ref (ad 16))] dX0_widest_54 hl rfl rfl (by decide) rfl (fun ls hl => ?_)
        refine x_goto X 12 dX0_widest_57 (by decide) ?_
        exact hbk8 (x3_5 + 1) x1_12 σ11 hV H locs ls hw (lv_sub hl [0, 2, 1, 3] rfl)

set_option maxHeartbeats 4000000 in
set_option maxRecDepth 100000 in
theorem c_fillI {L : List LC} (l : Launch) (G : GT) (ad : Nat → Nat) (hI : Inj L ad) (a : Nat) (na : Nat) (ha : L[a]? = some (.inl (false, na))) (σ : St) (a1 : Int) {Q : St → Prop} (hV : V_fillI a na σ a1 Q) : Met l yJ7_fill_53178 wsJ7_fill_53178 (rmx 0 0) (Pq vwCl G L ad σ [.ref (ad a), iV a1]) (Qv vwCl G L ad Q) 0 0 (Ax L ad) := by
  unfold V_fillI at hV
  refine x_metv (own := RJ7) (by decide) rfl rfl (Nat.le_of_ble_eq_true rfl) hI ?_
  intro p e s m args below meth c R QQ X hR hret ls hl hw
  replace hl : lv_has ls 4 [(0, .ref (ad a)), (1, iV a1)] := hl
  obtain ⟨H, hH⟩ : ∃ z, z = s.heap := ⟨_, rfl⟩
  obtain ⟨locs, hlo⟩ : ∃ z : List Loc, z = [] := ⟨_, rfl⟩
  rw [← hH, ← hlo]
  replace hw : Wx vwCl G L ad s H locs σ := by rw [hH, hlo]; exact hw
  clear hH hlo
  refine x_iconst X dJ7_fill_53178_0 ?_
  refine x_istore_n X [(2, iV 0), (0, .ref (ad a)), (1, iV a1)] dJ7_fill_53178_1 rfl hl (by decide) rfl (fun ls hl => ?_)
  refine x_aload_n X dJ7_fill_53178_2 rfl (lv_at hl 1 rfl) ?_
  refine x_alen X hw ha rfl dJ7_fill_53178_3 ?_
  refine x_bi (fun x3_1 ex3_1 => ?_)
  replace hV := hV x3_1 ex3_1
  clear ex3_1
  refine x_istore_n X [(3, iV x3_1), (2, iV 0), (0, .ref (ad a)), (1, iV a1)] dJ7_fill_53178_4 rfl hl (by decide) rfl (fun ls hl => ?_)
  refine WL1.use (Gl := fun x2_2 σ3 => ∀ (H : Heap) (locs : List Loc) (ls : Array Slot), Wx vwCl G L ad s H locs σ3 → lv_has ls 4 [(3, iV x3_1), (2, iV x2_2), (0, .ref (ad a)), (1, iV a1)] → W p l e R s m args below meth c H locs 0 0 QQ (F0 m 5 ls [])) ?_ hV H locs ls hw hl
  clear hV hw hl H locs ls
  intro bk4 x2_2 σ3 hbk4 hV H locs ls hw hl
  refine x_iload_n X dJ7_fill_53178_5 rfl (lv_at hl 1 rfl) ?_
  refine x_iload_n X dJ7_fill_53178_6 rfl (lv_at hl 0 rfl) ?_
  refine x_icmp_ge X rfl rfl 20 dJ7_fill_53178_7 (by decide) (fun hc => ?_) (fun hc => ?_)
  · replace hV := hV.1 hc
    exact hret σ3 H locs ls 20 hV hw dJ7_fill_53178_20
  · replace hV := hV.2 hc
    refine x_aload_n X dJ7_fill_53178_10 rfl (lv_at hl 2 rfl) ?_
    refine x_iload_n X dJ7_fill_53178_11 rfl (lv_at hl 1 rfl) ?_
    refine x_iload_n X dJ7_fill_53178_12 rfl (lv_at hl 3 rfl) ?_
    obtain ⟨hi, hV⟩ := hV
    refine x_iast X hw ha rfl rfl hi dJ7_fill_53178_13 (fun H locs σ5 hs hw => ?_)
    replace hV := hV σ5 hs
    refine x_iinc X (k := 1) (x2_2 + 1) [(2, iV (x2_2 + 1)), (3, iV x3_1), (0, .ref (ad a)), (1, iV a1)] dJ7_fill_53178_14 hl rfl rfl (by decide) rfl (fun ls hl => ?_)
    refine x_goto X 5 dJ7_fill_53178_17 (by decide) ?_
    exact hbk4 (x2_2 + 1) σ5 hV H locs ls hw (lv_sub hl [1, 0, 2, 3] rfl)

theorem n_Heap_clear_0 : Cond.fieldLink RX1 9 "LacePillow$Heap" "size" "I" ∈ wsX1_clear := by decide +kernel
theorem n_Heap_clear_1 : ∀ w ∈ wsX10, w ∈ wsX1_clear := by decide +kernel
theorem n_Heap_clear_2 : Cond.fieldLink RX1 15 "LacePillow$Heap" "signs" "[I" ∈ wsX1_clear := by decide +kernel
theorem n_Heap_clear_3 : Cond.fieldLink RX1 19 "LacePillow$Heap" "tops" "[I" ∈ wsX1_clear := by decide +kernel
set_option maxHeartbeats 4000000 in
set_option maxRecDepth 100000 in
theorem c_Heap_clear (l : Launch) (G : GT) (ad : Nat → Nat) (hI : Inj LX ad) (o : Nat) (ho : isHeap o) (σ : St) {Q : St → Prop} (hV : V_Heap_clear o σ Q) : Met l yX1_clear wsX1_clear (rmx 1 23) (Pq vwCl G LX ad σ [.ref (ad o)]) (Qv vwCl G LX ad Q) 0 0 (Ax LX ad) := by
  unfold V_Heap_clear at hV
  refine x_metv (own := RX1) (by decide) rfl rfl (Nat.le_of_ble_eq_true rfl) hI ?_
  intro p e s m args below meth c R QQ X hR hret ls hl hw
  replace hl : lv_has ls 1 [(0, .ref (ad o))] := hl
  obtain ⟨H, hH⟩ : ∃ z, z = s.heap := ⟨_, rfl⟩
  obtain ⟨locs, hlo⟩ : ∃ z : List Loc, z = [] := ⟨_, rfl⟩
  rw [← hH, ← hlo]
  replace hw : Wx vwCl G LX ad s H locs σ := by rw [hH, hlo]; exact hw
  clear hH hlo
  refine x_aload_n X dX1_clear_0 rfl (lv_at hl 0 rfl) ?_
  refine x_iconst X dX1_clear_1 ?_
  refine x_puti X hw (lfHeap ho) cX1 0 (by decide) rfl n_Heap_clear_1 n_Heap_clear_0 tyX1 tyX1_ok nmX1 rfl rfl rfl dX1_clear_2 (fun H locs σ1 hs hw => ?_)
  replace hV := hV σ1 hs
  refine x_aload_n X dX1_clear_5 rfl (lv_at hl 0 rfl) ?_
  refine x_getr X hw (lfHeap ho) cX1 1 (by decide) rfl n_Heap_clear_1 n_Heap_clear_2 dX1_clear_6 ?_
  refine x_iconst X dX1_clear_9 ?_
  refine x_csv X hw [.ref (ad (o + 1)), iV 0] [] (c_fillI l G ad hI (o + 1) 1440 (lfHeap1 ho) σ1 0 hV) (va_cwS 2 X.2.2.2.2 gX1_clear_J7_fill_53178 rfl rfl rfl hd_fillI ⟨x_fr hR.1 rfl, x_fr hR.2 rfl⟩) rfl hl.1 rfl (Nat.le_of_ble_eq_true rfl) dX1_clear_10 ⟨Nat.zero_le _, Nat.zero_le _⟩ (fun σ2 H locs hV hw => ?_)
  refine x_aload_n X dX1_clear_13 rfl (lv_at hl 0 rfl) ?_
  refine x_getr X hw (lfHeap ho) cX1 2 (by decide) rfl n_Heap_clear_1 n_Heap_clear_3 dX1_clear_14 ?_
  refine x_iconst X dX1_clear_17 ?_
  refine x_csv X hw [.ref (ad (o + 2)), iV (-1)] [] (c_fillI l G ad hI (o + 2) 17 (lfHeap2 ho) σ2 (-1) hV) (va_cwS 2 X.2.2.2.2 gX1_clear_J7_fill_53178 rfl rfl rfl hd_fillI ⟨x_fr hR.1 rfl, x_fr hR.2 rfl⟩) rfl hl.1 rfl (Nat.le_of_ble_eq_true rfl) dX1_clear_18 ⟨Nat.zero_le _, Nat.zero_le _⟩ (fun σ3 H locs hV hw => ?_)
  exact hret σ3 H locs ls 21 hV hw dX1_clear_21

theorem n_Heap_copyFrom_0 : Cond.fieldLink RX1 9 "LacePillow$Heap" "size" "I" ∈ wsX1_copyFrom := by decide +kernel
theorem n_Heap_copyFrom_1 : ∀ w ∈ wsX10, w ∈ wsX1_copyFrom := by decide +kernel
theorem n_Heap_copyFrom_2 : Cond.fieldLink RX1 15 "LacePillow$Heap" "signs" "[I" ∈ wsX1_copyFrom := by decide +kernel
theorem n_Heap_copyFrom_3 : Cond.methodLink RX1 28 arraycopyName ∈ wsX1_copyFrom := by decide +kernel
theorem n_Heap_copyFrom_4 : Cond.native arraycopyName ∈ wsX1_copyFrom := by decide +kernel
theorem n_Heap_copyFrom_5 : Cond.static arraycopyName ∈ wsX1_copyFrom := by decide +kernel
theorem n_Heap_copyFrom_6 : Cond.initialized "java/lang/System" ∈ wsX1_copyFrom := by decide +kernel
theorem n_Heap_copyFrom_7 : Cond.fieldLink RX1 19 "LacePillow$Heap" "tops" "[I" ∈ wsX1_copyFrom := by decide +kernel
set_option maxHeartbeats 4000000 in
set_option maxRecDepth 100000 in
theorem c_Heap_copyFrom (l : Launch) (G : GT) (ad : Nat → Nat) (hI : Inj LX ad) (σ : St) {Q : St → Prop} (hV : V_Heap_copyFrom σ Q) : Met l yX1_copyFrom wsX1_copyFrom (rmx 1 100) (Pq vwCl G LX ad σ [.ref (ad 13), .ref (ad 38)]) (Qv vwCl G LX ad Q) 0 0 (Ax LX ad) := by
  unfold V_Heap_copyFrom at hV
  refine x_metv (own := RX1) (by decide) rfl rfl (Nat.le_of_ble_eq_true rfl) hI ?_
  intro p e s m args below meth c R QQ X hR hret ls hl hw
  replace hl : lv_has ls 2 [(0, .ref (ad 13)), (1, .ref (ad 38))] := hl
  obtain ⟨H, hH⟩ : ∃ z, z = s.heap := ⟨_, rfl⟩
  obtain ⟨locs, hlo⟩ : ∃ z : List Loc, z = [] := ⟨_, rfl⟩
  rw [← hH, ← hlo]
  replace hw : Wx vwCl G LX ad s H locs σ := by rw [hH, hlo]; exact hw
  clear hH hlo
  refine x_aload_n X dX1_copyFrom_0 rfl (lv_at hl 0 rfl) ?_
  refine x_aload_n X dX1_copyFrom_1 rfl (lv_at hl 1 rfl) ?_
  refine x_geti X hw lx38 cX1 0 (by decide) rfl n_Heap_copyFrom_1 n_Heap_copyFrom_0 dX1_copyFrom_2 ?_
  refine x_puti X hw lx13 cX1 0 (by decide) rfl n_Heap_copyFrom_1 n_Heap_copyFrom_0 tyX1 tyX1_ok nmX1 rfl rfl rfl dX1_copyFrom_5 (fun H locs σ1 hs hw => ?_)
  replace hV := hV σ1 hs
  refine x_aload_n X dX1_copyFrom_8 rfl (lv_at hl 1 rfl) ?_
  refine x_getr X hw lx38 cX1 1 (by decide) rfl n_Heap_copyFrom_1 n_Heap_copyFrom_2 dX1_copyFrom_9 ?_
  refine x_iconst X dX1_copyFrom_12 ?_
  refine x_aload_n X dX1_copyFrom_13 rfl (lv_at hl 0 rfl) ?_
  refine x_getr X hw lx13 cX1 1 (by decide) rfl n_Heap_copyFrom_1 n_Heap_copyFrom_2 dX1_copyFrom_14 ?_
  refine x_iconst X dX1_copyFrom_17 ?_
  refine x_sipush X dX1_copyFrom_18 (by decide) ?_
  refine x_copyi X hw hl.1 n_Heap_copyFrom_3 n_Heap_copyFrom_4 n_Heap_copyFrom_5 n_Heap_copyFrom_6 lx39 lx14 1440 rfl k32_1440 (by decide) (by decide) (x_fr hR.1 rfl) (x_fr hR.2 rfl) dX1_copyFrom_21 (fun H locs σ2 hs hw => ?_)
  replace hV := hV σ2 hs
  refine x_aload_n X dX1_copyFrom_24 rfl (lv_at hl 1 rfl) ?_
  refine x_getr X hw lx38 cX1 2 (by decide) rfl n_Heap_copyFrom_1 n_Heap_copyFrom_7 dX1_copyFrom_25 ?_
  refine x_iconst X dX1_copyFrom_28 ?_
  refine x_aload_n X dX1_copyFrom_29 rfl (lv_at hl 0 rfl) ?_
  refine x_getr X hw lx13 cX1 2 (by decide) rfl n_Heap_copyFrom_1 n_Heap_copyFrom_7 dX1_copyFrom_30 ?_
  refine x_iconst X dX1_copyFrom_33 ?_
  refine x_bipush X dX1_copyFrom_34 (by decide) ?_
  refine x_copyi X hw hl.1 n_Heap_copyFrom_3 n_Heap_copyFrom_4 n_Heap_copyFrom_5 n_Heap_copyFrom_6 lx40 lx15 17 rfl k32_17 (by decide) (by decide) (x_fr hR.1 rfl) (x_fr hR.2 rfl) dX1_copyFrom_36 (fun H locs σ3 hs hw => ?_)
  replace hV := hV σ3 hs
  exact hret σ3 H locs ls 39 hV hw dX1_copyFrom_39

theorem n_Heap_takeTop_0 : Cond.fieldLink RX1 15 "LacePillow$Heap" "signs" "[I" ∈ wsX1_takeTop := by decide +kernel
theorem n_Heap_takeTop_1 : ∀ w ∈ wsX10, w ∈ wsX1_takeTop := by decide +kernel
theorem n_Heap_takeTop_2 : Cond.fieldLink RX1 9 "LacePillow$Heap" "size" "I" ∈ wsX1_takeTop := by decide +kernel
theorem n_Heap_takeTop_3 : Cond.fieldLink RX1 19 "LacePillow$Heap" "tops" "[I" ∈ wsX1_takeTop := by decide +kernel
set_option maxHeartbeats 4000000 in
set_option maxRecDepth 100000 in
theorem c_Heap_takeTop (l : Launch) (G : GT) (ad : Nat → Nat) (hI : Inj LX ad) (o : Nat) (ho : isHeap o) (σ : St) (a1 : Int) (a2 : Int) {Q : St → Prop} (hV : V_Heap_takeTop o σ a1 a2 Q) : Met l yX1_takeTop wsX1_takeTop (rmx 0 0) (Pq vwCl G LX ad σ [.ref (ad o), iV a1, iV a2]) (Qv vwCl G LX ad Q) 0 0 (Ax LX ad) := by
  unfold V_Heap_takeTop at hV
  refine x_metv (own := RX1) (by decide) rfl rfl (Nat.le_of_ble_eq_true rfl) hI ?_
  intro p e s m args below meth c R QQ X hR hret ls hl hw
  replace hl : lv_has ls 4 [(0, .ref (ad o)), (1, iV a1), (2, iV a2)] := hl
  obtain ⟨H, hH⟩ : ∃ z, z = s.heap := ⟨_, rfl⟩
  obtain ⟨locs, hlo⟩ : ∃ z : List Loc, z = [] := ⟨_, rfl⟩
  rw [← hH, ← hlo]
  replace hw : Wx vwCl G LX ad s H locs σ := by rw [hH, hlo]; exact hw
  clear hH hlo
  refine x_aload_n X dX1_takeTop_0 rfl (lv_at hl 0 rfl) ?_
  refine x_getr X hw (lfHeap ho) cX1 1 (by decide) rfl n_Heap_takeTop_1 n_Heap_takeTop_0 dX1_takeTop_1 ?_
  refine x_iload_n X dX1_takeTop_4 rfl (lv_at hl 2 rfl) ?_
  refine x_bipush X dX1_takeTop_5 (by decide) ?_
  refine x_imul X dX1_takeTop_7 ?_
  refine x_iload_n X dX1_takeTop_8 rfl (lv_at hl 1 rfl) ?_
  refine x_iadd X dX1_takeTop_9 ?_
  refine x_iconst X dX1_takeTop_10 ?_
  obtain ⟨hi, hV⟩ := hV
  refine x_iast X hw (lfHeap1 ho) rfl rfl hi dX1_takeTop_11 (fun H locs σ1 hs hw => ?_)
  replace hV := hV σ1 hs
  refine x_aload_n X dX1_takeTop_12 rfl (lv_at hl 0 rfl) ?_
  refine x_dup X dX1_takeTop_13 rfl ?_
  refine x_geti X hw (lfHeap ho) cX1 0 (by decide) rfl n_Heap_takeTop_1 n_Heap_takeTop_2 dX1_takeTop_14 ?_
  refine x_iconst X dX1_takeTop_17 ?_
  refine x_isub X dX1_takeTop_18 ?_
  refine x_puti X hw (lfHeap ho) cX1 0 (by decide) rfl n_Heap_takeTop_1 n_Heap_takeTop_2 tyX1 tyX1_ok nmX1 rfl rfl rfl dX1_takeTop_19 (fun H locs σ2 hs hw => ?_)
  replace hV := hV σ2 hs
  refine x_iload_n X dX1_takeTop_22 rfl (lv_at hl 2 rfl) ?_
  refine x_iconst X dX1_takeTop_23 ?_
  refine x_isub X dX1_takeTop_24 ?_
  refine x_bi (fun x3_3 ex3_3 => ?_)
  replace hV := hV x3_3 ex3_3
  clear ex3_3
  refine x_istore_n X [(3, iV x3_3), (0, .ref (ad o)), (1, iV a1), (2, iV a2)] dX1_takeTop_25 rfl hl (by decide) rfl (fun ls hl => ?_)
  refine WL1.use (Gl := fun x3_4 σ5 => ∀ (H : Heap) (locs : List Loc) (ls : Array Slot), Wx vwCl G LX ad s H locs σ5 → lv_has ls 4 [(3, iV x3_4), (0, .ref (ad o)), (1, iV a1)] → W p l e R s m args below meth c H locs 0 0 QQ (F0 m 26 ls [])) ?_ hV H locs ls hw (lv_sub hl [0, 1, 2] rfl)
  clear hV hw hl H locs ls
  intro bk6 x3_4 σ5 hbk6 hV H locs ls hw hl
  refine x_iload_n X dX1_takeTop_26 rfl (lv_at hl 0 rfl) ?_
  refine x_if_lt X rfl 50 dX1_takeTop_27 (by decide) (fun hc => ?_) (fun hc => ?_)
  · replace hV := hV.1 hc
    refine x_aload_n X dX1_takeTop_50 rfl (lv_at hl 1 rfl) ?_
    refine x_getr X hw (lfHeap ho) cX1 2 (by decide) rfl n_Heap_takeTop_1 n_Heap_takeTop_3 dX1_takeTop_51 ?_
    refine x_iload_n X dX1_takeTop_54 rfl (lv_at hl 2 rfl) ?_
    refine x_iconst X dX1_takeTop_55 ?_
    refine x_iadd X dX1_takeTop_56 ?_
    refine x_iload_n X dX1_takeTop_57 rfl (lv_at hl 0 rfl) ?_
    obtain ⟨hi, hV⟩ := hV
    refine x_iast X hw (lfHeap2 ho) rfl rfl hi dX1_takeTop_58 (fun H locs σ7 hs hw => ?_)
    replace hV := hV σ7 hs
    exact hret σ7 H locs ls 59 hV hw dX1_takeTop_59
  · replace hV := hV.2 hc
    refine x_aload_n X dX1_takeTop_30 rfl (lv_at hl 1 rfl) ?_
    refine x_getr X hw (lfHeap ho) cX1 1 (by decide) rfl n_Heap_takeTop_1 n_Heap_takeTop_0 dX1_takeTop_31 ?_
    refine x_iload_n X dX1_takeTop_34 rfl (lv_at hl 0 rfl) ?_
    refine x_bipush X dX1_takeTop_35 (by decide) ?_
    refine x_imul X dX1_takeTop_37 ?_
    refine x_iload_n X dX1_takeTop_38 rfl (lv_at hl 2 rfl) ?_
    refine x_iadd X dX1_takeTop_39 ?_
    obtain ⟨hi, hV⟩ := hV
    refine x_iald X hw (lfHeap1 ho) rfl rfl hi dX1_takeTop_40 ?_
    refine x_if_ne X rfl 50 dX1_takeTop_41 (by decide) (fun hc => ?_) (fun hc => ?_)
    · replace hV := hV.1 hc
      refine x_aload_n X dX1_takeTop_50 rfl (lv_at hl 1 rfl) ?_
      refine x_getr X hw (lfHeap ho) cX1 2 (by decide) rfl n_Heap_takeTop_1 n_Heap_takeTop_3 dX1_takeTop_51 ?_
      refine x_iload_n X dX1_takeTop_54 rfl (lv_at hl 2 rfl) ?_
      refine x_iconst X dX1_takeTop_55 ?_
      refine x_iadd X dX1_takeTop_56 ?_
      refine x_iload_n X dX1_takeTop_57 rfl (lv_at hl 0 rfl) ?_
      obtain ⟨hi, hV⟩ := hV
      refine x_iast X hw (lfHeap2 ho) rfl rfl hi dX1_takeTop_58 (fun H locs σ8 hs hw => ?_)
      replace hV := hV σ8 hs
      exact hret σ8 H locs ls 59 hV hw dX1_takeTop_59
    · replace hV := hV.2 hc
      refine x_iinc X (k := 0) (x3_4 + (-1)) [(3, iV (x3_4 + (-1))), (0, .ref (ad o)), (1, iV a1)] dX1_takeTop_44 hl rfl rfl (by decide) rfl (fun ls hl => ?_)
      refine x_goto X 26 dX1_takeTop_47 (by decide) ?_
      exact hbk6 (x3_4 + (-1)) σ5 hV H locs ls hw hl

theorem n_Heap_add_0 : Cond.fieldLink RX1 19 "LacePillow$Heap" "tops" "[I" ∈ wsX1_add := by decide +kernel
theorem n_Heap_add_1 : ∀ w ∈ wsX10, w ∈ wsX1_add := by decide +kernel
theorem n_Heap_add_2 : Cond.methodLink RX1 34 Lib.Math.max.name ∈ wsX1_add := by decide +kernel
theorem n_Heap_add_3 : Cond.static Lib.Math.max.name ∈ wsX1_add := by decide +kernel
theorem n_Heap_add_4 : Cond.initialized "java/lang/Math" ∈ wsX1_add := by decide +kernel
theorem n_Heap_add_5 : Cond.code Lib.Math.max.name Lib.Math.max.code 2 (some .int) ∈ wsX1_add := by decide +kernel
theorem n_Heap_add_6 : Cond.fieldLink RX1 15 "LacePillow$Heap" "signs" "[I" ∈ wsX1_add := by decide +kernel
theorem n_Heap_add_7 : Cond.fieldLink RX1 9 "LacePillow$Heap" "size" "I" ∈ wsX1_add := by decide +kernel
set_option maxHeartbeats 4000000 in
set_option maxRecDepth 100000 in
theorem c_Heap_add (l : Launch) (G : GT) (ad : Nat → Nat) (hI : Inj LX ad) (o : Nat) (ho : isHeap o) (σ : St) (a1 : Int) (a2 : Int) {Q : St → Prop} (hV : V_Heap_add o σ a1 a2 Q) : Met l yX1_add wsX1_add (rmx 1 30) (Pq vwCl G LX ad σ [.ref (ad o), iV a1, iV a2]) (Qv vwCl G LX ad Q) 0 0 (Ax LX ad) := by
  unfold V_Heap_add at hV
  refine x_metv (own := RX1) (by decide) rfl rfl (Nat.le_of_ble_eq_true rfl) hI ?_
  intro p e s m args below meth c R QQ X hR hret ls hl hw
  replace hl : lv_has ls 6 [(0, .ref (ad o)), (1, iV a1), (2, iV a2)] := hl
  obtain ⟨H, hH⟩ : ∃ z, z = s.heap := ⟨_, rfl⟩
  obtain ⟨locs, hlo⟩ : ∃ z : List Loc, z = [] := ⟨_, rfl⟩
  rw [← hH, ← hlo]
  replace hw : Wx vwCl G LX ad s H locs σ := by rw [hH, hlo]; exact hw
  clear hH hlo
  refine x_aload_n X dX1_add_0 rfl (lv_at hl 0 rfl) ?_
  refine x_getr X hw (lfHeap ho) cX1 2 (by decide) rfl n_Heap_add_1 n_Heap_add_0 dX1_add_1 ?_
  refine x_iload_n X dX1_add_4 rfl (lv_at hl 1 rfl) ?_
  refine x_iconst X dX1_add_5 ?_
  refine x_iadd X dX1_add_6 ?_
  obtain ⟨hi, hV⟩ := hV
  refine x_iald X hw (lfHeap2 ho) rfl rfl hi dX1_add_7 ?_
  refine x_bi (fun x3_1 ex3_1 => ?_)
  replace hV := hV x3_1 ex3_1
  clear ex3_1
  refine x_istore_n X [(3, iV x3_1), (0, .ref (ad o)), (1, iV a1), (2, iV a2)] dX1_add_8 rfl hl (by decide) rfl (fun ls hl => ?_)
  refine x_aload_n X dX1_add_9 rfl (lv_at hl 1 rfl) ?_
  refine x_getr X hw (lfHeap ho) cX1 2 (by decide) rfl n_Heap_add_1 n_Heap_add_0 dX1_add_10 ?_
  refine x_iload_n X dX1_add_13 rfl (lv_at hl 2 rfl) ?_
  obtain ⟨hi, hV⟩ := hV
  refine x_iald X hw (lfHeap2 ho) rfl rfl hi dX1_add_14 ?_
  refine x_aload_n X dX1_add_15 rfl (lv_at hl 1 rfl) ?_
  refine x_getr X hw (lfHeap ho) cX1 2 (by decide) rfl n_Heap_add_1 n_Heap_add_0 dX1_add_16 ?_
  refine x_iload_n X dX1_add_19 rfl (lv_at hl 2 rfl) ?_
  refine x_iconst X dX1_add_20 ?_
  refine x_iadd X dX1_add_21 ?_
  obtain ⟨hi, hV⟩ := hV
  refine x_iald X hw (lfHeap2 ho) rfl rfl hi dX1_add_22 ?_
  refine x_mmax X hl.1 n_Heap_add_2 n_Heap_add_3 n_Heap_add_4 n_Heap_add_5 (x_fr hR.1 rfl) (x_fr hR.2 rfl) ⟨Nat.zero_le _, Nat.zero_le _⟩ dX1_add_23 ?_
  refine x_bi (fun x4_2 ex4_2 => ?_)
  replace hV := hV x4_2 ex4_2
  clear ex4_2
  refine x_istore X [(4, iV x4_2), (3, iV x3_1), (0, .ref (ad o)), (1, iV a1), (2, iV a2)] dX1_add_26 hl (by decide) rfl (fun ls hl => ?_)
  refine x_iload_n X dX1_add_28 rfl (lv_at hl 1 rfl) ?_
  refine x_iload X dX1_add_29 (lv_at hl 0 rfl) ?_
  have hJ56 : ∀ (σ3 : St) (H : Heap) (locs : List Loc) (ls : Array Slot), J_Heap_add_56 o a1 a2 Q x3_1 x4_2 σ3 → Wx vwCl G LX ad s H locs σ3 → lv_has ls 6 [(4, iV x4_2), (3, iV x3_1), (0, .ref (ad o)), (1, iV a1), (2, iV a2)] → W p l e R s m args below meth c H locs 0 0 QQ (F0 m 56 ls []) := by
    intro σ3 H locs ls hV hw hl
    unfold J_Heap_add_56 at hV
    refine x_iload_n X dX1_add_56 rfl (lv_at hl 1 rfl) ?_
    refine x_iload X dX1_add_57 (lv_at hl 0 rfl) ?_
    refine x_mmax X hl.1 n_Heap_add_2 n_Heap_add_3 n_Heap_add_4 n_Heap_add_5 (x_fr hR.1 rfl) (x_fr hR.2 rfl) ⟨Nat.zero_le _, Nat.zero_le _⟩ dX1_add_59 ?_
    refine x_iconst X dX1_add_62 ?_
    refine x_iadd X dX1_add_63 ?_
    refine x_bi (fun x5_4 ex5_4 => ?_)
    replace hV := hV x5_4 ex5_4
    clear ex5_4
    refine x_istore X [(5, iV x5_4), (4, iV x4_2), (3, iV x3_1), (0, .ref (ad o)), (1, iV a1), (2, iV a2)] dX1_add_64 hl (by decide) rfl (fun ls hl => ?_)
    refine x_iload X dX1_add_66 (lv_at hl 0 rfl) ?_
    refine x_bipush X dX1_add_68 (by decide) ?_
    refine x_icmp_ge X rfl k32_96 106 dX1_add_70 (by decide) (fun hc => ?_) (fun hc => ?_)
    · replace hV := hV.1 hc
      exact hret σ3 H locs ls 106 hV hw dX1_add_106
    · replace hV := hV.2 hc
      refine x_aload_n X dX1_add_73 rfl (lv_at hl 3 rfl) ?_
      refine x_getr X hw (lfHeap ho) cX1 1 (by decide) rfl n_Heap_add_1 n_Heap_add_6 dX1_add_74 ?_
      refine x_iload X dX1_add_77 (lv_at hl 0 rfl) ?_
      refine x_bipush X dX1_add_79 (by decide) ?_
      refine x_imul X dX1_add_81 ?_
      refine x_iload_n X dX1_add_82 rfl (lv_at hl 4 rfl) ?_
      refine x_iadd X dX1_add_83 ?_
      refine x_iload_n X dX1_add_84 rfl (lv_at hl 5 rfl) ?_
      obtain ⟨hi, hV⟩ := hV
      refine x_iast X hw (lfHeap1 ho) rfl rfl hi dX1_add_85 (fun H locs σ5 hs hw => ?_)
      replace hV := hV σ5 hs
      refine x_aload_n X dX1_add_86 rfl (lv_at hl 3 rfl) ?_
      refine x_getr X hw (lfHeap ho) cX1 2 (by decide) rfl n_Heap_add_1 n_Heap_add_0 dX1_add_87 ?_
      refine x_iload_n X dX1_add_90 rfl (lv_at hl 4 rfl) ?_
      refine x_iconst X dX1_add_91 ?_
      refine x_iadd X dX1_add_92 ?_
      refine x_iload X dX1_add_93 (lv_at hl 0 rfl) ?_
      obtain ⟨hi, hV⟩ := hV
      refine x_iast X hw (lfHeap2 ho) rfl rfl hi dX1_add_95 (fun H locs σ6 hs hw => ?_)
      replace hV := hV σ6 hs
      refine x_aload_n X dX1_add_96 rfl (lv_at hl 3 rfl) ?_
      refine x_dup X dX1_add_97 rfl ?_
      refine x_geti X hw (lfHeap ho) cX1 0 (by decide) rfl n_Heap_add_1 n_Heap_add_7 dX1_add_98 ?_
      refine x_iconst X dX1_add_101 ?_
      refine x_iadd X dX1_add_102 ?_
      refine x_puti X hw (lfHeap ho) cX1 0 (by decide) rfl n_Heap_add_1 n_Heap_add_7 tyX1 tyX1_ok nmX1 rfl rfl rfl dX1_add_103 (fun H locs σ7 hs hw => ?_)
      replace hV := hV σ7 hs
      exact hret σ7 H locs ls 106 hV hw dX1_add_106
  refine x_icmp_le X rfl rfl 56 dX1_add_31 (by decide) (fun hc => ?_) (fun hc => ?_)
  · replace hV := hV.1 hc
    exact hJ56 σ H locs ls hV hw hl
  · replace hV := hV.2 hc
    refine x_aload_n X dX1_add_34 rfl (lv_at hl 2 rfl) ?_
    refine x_getr X hw (lfHeap ho) cX1 1 (by decide) rfl n_Heap_add_1 n_Heap_add_6 dX1_add_35 ?_
    refine x_iload_n X dX1_add_38 rfl (lv_at hl 1 rfl) ?_
    refine x_bipush X dX1_add_39 (by decide) ?_
    refine x_imul X dX1_add_41 ?_
    refine x_iload_n X dX1_add_42 rfl (lv_at hl 3 rfl) ?_
    refine x_iadd X dX1_add_43 ?_
    obtain ⟨hi, hV⟩ := hV
    refine x_iald X hw (lfHeap1 ho) rfl rfl hi dX1_add_44 ?_
    refine x_iload_n X dX1_add_45 rfl (lv_at hl 4 rfl) ?_
    refine x_icmp_eq X rfl rfl 56 dX1_add_46 (by decide) (fun hc => ?_) (fun hc => ?_)
    · replace hV := hV.1 hc
      exact hJ56 σ H locs ls hV hw hl
    · replace hV := hV.2 hc
      refine x_aload_n X dX1_add_49 rfl (lv_at hl 2 rfl) ?_
      refine x_iload_n X dX1_add_50 rfl (lv_at hl 3 rfl) ?_
      refine x_iload_n X dX1_add_51 rfl (lv_at hl 1 rfl) ?_
      refine x_cvv X hw [iV a1, iV x3_1] [] (c_Heap_takeTop l G ad hI o ho σ a1 x3_1 hV) (cwV 2 X.2.2.2.2 gX1_add_X1_takeTop rfl rfl rfl hd_Heap_takeTop ⟨x_fr hR.1 rfl, x_fr hR.2 rfl⟩) (lfHeap ho) cX1 rfl hl.1 rfl (Nat.le_of_ble_eq_true rfl) dX1_add_52 ⟨Nat.zero_le _, Nat.zero_le _⟩ (fun σ8 H locs hV hw => ?_)
      exact hret σ8 H locs ls 55 hV hw dX1_add_55

theorem n_Heap_signAt_0 : Cond.fieldLink RX1 15 "LacePillow$Heap" "signs" "[I" ∈ wsX1_signAt := by decide +kernel
theorem n_Heap_signAt_1 : ∀ w ∈ wsX10, w ∈ wsX1_signAt := by decide +kernel
set_option maxHeartbeats 4000000 in
set_option maxRecDepth 100000 in
theorem c_Heap_signAt (l : Launch) (G : GT) (ad : Nat → Nat) (hI : Inj LX ad) (o : Nat) (ho : isHeap o) (σ : St) (a1 : Int) (a2 : Int) {Q : Int → St → Prop} (hV : V_Heap_signAt o σ a1 a2 Q) : Met l yX1_signAt wsX1_signAt (rmx 0 0) (Pq vwCl G LX ad σ [.ref (ad o), iV a1, iV a2]) (Qi vwCl G LX ad Q) 0 0 (Ax LX ad) := by
  unfold V_Heap_signAt at hV
  refine x_meti (own := RX1) (by decide) rfl rfl (Nat.le_of_ble_eq_true rfl) hI ?_
  intro p e s m args below meth c R QQ X hR hret ls hl hw
  replace hl : lv_has ls 3 [(0, .ref (ad o)), (1, iV a1), (2, iV a2)] := hl
  obtain ⟨H, hH⟩ : ∃ z, z = s.heap := ⟨_, rfl⟩
  obtain ⟨locs, hlo⟩ : ∃ z : List Loc, z = [] := ⟨_, rfl⟩
  rw [← hH, ← hlo]
  replace hw : Wx vwCl G LX ad s H locs σ := by rw [hH, hlo]; exact hw
  clear hH hlo
  refine x_iload_n X dX1_signAt_0 rfl (lv_at hl 1 rfl) ?_
  refine x_bipush X dX1_signAt_1 (by decide) ?_
  refine x_icmp_ge X rfl k32_96 20 dX1_signAt_3 (by decide) (fun hc => ?_) (fun hc => ?_)
  · replace hV := hV.1 hc
    refine x_iconst X dX1_signAt_20 ?_
    exact hret 0 σ H locs ls 21 hV hw dX1_signAt_21
  · replace hV := hV.2 hc
    refine x_aload_n X dX1_signAt_6 rfl (lv_at hl 0 rfl) ?_
    refine x_getr X hw (lfHeap ho) cX1 1 (by decide) rfl n_Heap_signAt_1 n_Heap_signAt_0 dX1_signAt_7 ?_
    refine x_iload_n X dX1_signAt_10 rfl (lv_at hl 1 rfl) ?_
    refine x_bipush X dX1_signAt_11 (by decide) ?_
    refine x_imul X dX1_signAt_13 ?_
    refine x_iload_n X dX1_signAt_14 rfl (lv_at hl 2 rfl) ?_
    refine x_iadd X dX1_signAt_15 ?_
    obtain ⟨hi, hV⟩ := hV
    refine x_iald X hw (lfHeap1 ho) rfl rfl hi dX1_signAt_16 ?_
    refine x_goto X 21 dX1_signAt_17 (by decide) ?_
    exact hret (σ (o + 1) (i32 ((a1 * 15) + a2))) σ H locs ls 21 hV hw dX1_signAt_21

theorem n_Heap_countLayers_0 : Cond.fieldLink RX1 19 "LacePillow$Heap" "tops" "[I" ∈ wsX1_countLayers := by decide +kernel
theorem n_Heap_countLayers_1 : ∀ w ∈ wsX10, w ∈ wsX1_countLayers := by decide +kernel
theorem n_Heap_countLayers_2 : Cond.methodLink RX1 34 Lib.Math.max.name ∈ wsX1_countLayers := by decide +kernel
theorem n_Heap_countLayers_3 : Cond.static Lib.Math.max.name ∈ wsX1_countLayers := by decide +kernel
theorem n_Heap_countLayers_4 : Cond.initialized "java/lang/Math" ∈ wsX1_countLayers := by decide +kernel
theorem n_Heap_countLayers_5 : Cond.code Lib.Math.max.name Lib.Math.max.code 2 (some .int) ∈ wsX1_countLayers := by decide +kernel
set_option maxHeartbeats 4000000 in
set_option maxRecDepth 100000 in
theorem c_Heap_countLayers (l : Launch) (G : GT) (ad : Nat → Nat) (hI : Inj LX ad) (o : Nat) (ho : isHeap o) (σ : St) {Q : Int → St → Prop} (hV : V_Heap_countLayers o σ Q) : Met l yX1_countLayers wsX1_countLayers (rmx 1 30) (Pq vwCl G LX ad σ [.ref (ad o)]) (Qi vwCl G LX ad Q) 0 0 (Ax LX ad) := by
  unfold V_Heap_countLayers at hV
  refine x_meti (own := RX1) (by decide) rfl rfl (Nat.le_of_ble_eq_true rfl) hI ?_
  intro p e s m args below meth c R QQ X hR hret ls hl hw
  replace hl : lv_has ls 3 [(0, .ref (ad o))] := hl
  obtain ⟨H, hH⟩ : ∃ z, z = s.heap := ⟨_, rfl⟩
  obtain ⟨locs, hlo⟩ : ∃ z : List Loc, z = [] := ⟨_, rfl⟩
  rw [← hH, ← hlo]
  replace hw : Wx vwCl G LX ad s H locs σ := by rw [hH, hlo]; exact hw
  clear hH hlo
  refine x_iconst X dX1_countLayers_0 ?_
  refine x_istore_n X [(1, iV 0), (0, .ref (ad o))] dX1_countLayers_1 rfl hl (by decide) rfl (fun ls hl => ?_)
  refine x_iconst X dX1_countLayers_2 ?_
  refine x_istore_n X [(2, iV 0), (1, iV 0), (0, .ref (ad o))] dX1_countLayers_3 rfl hl (by decide) rfl (fun ls hl => ?_)
  refine WL2.use (Gl := fun x2_1 x1_2 σ3 => ∀ (H : Heap) (locs : List Loc) (ls : Array Slot), Wx vwCl G LX ad s H locs σ3 → lv_has ls 3 [(2, iV x2_1), (1, iV x1_2), (0, .ref (ad o))] → W p l e R s m args below meth c H locs 0 0 QQ (F0 m 4 ls [])) ?_ hV H locs ls hw hl
  clear hV hw hl H locs ls
  intro bk4 x2_1 x1_2 σ3 hbk4 hV H locs ls hw hl
  refine x_iload_n X dX1_countLayers_4 rfl (lv_at hl 0 rfl) ?_
  refine x_bipush X dX1_countLayers_5 (by decide) ?_
  refine x_icmp_ge X rfl k32_15 31 dX1_countLayers_7 (by decide) (fun hc => ?_) (fun hc => ?_)
  · replace hV := hV.1 hc
    refine x_iload_n X dX1_countLayers_31 rfl (lv_at hl 1 rfl) ?_
    exact hret x1_2 σ3 H locs ls 32 hV hw dX1_countLayers_32
  · replace hV := hV.2 hc
    refine x_iload_n X dX1_countLayers_10 rfl (lv_at hl 1 rfl) ?_
    refine x_aload_n X dX1_countLayers_11 rfl (lv_at hl 2 rfl) ?_
    refine x_getr X hw (lfHeap ho) cX1 2 (by decide) rfl n_Heap_countLayers_1 n_Heap_countLayers_0 dX1_countLayers_12 ?_
    refine x_iload_n X dX1_countLayers_15 rfl (lv_at hl 0 rfl) ?_
    refine x_iconst X dX1_countLayers_16 ?_
    refine x_iadd X dX1_countLayers_17 ?_
    obtain ⟨hi, hV⟩ := hV
    refine x_iald X hw (lfHeap2 ho) rfl rfl hi dX1_countLayers_18 ?_
    refine x_iconst X dX1_countLayers_19 ?_
    refine x_iadd X dX1_countLayers_20 ?_
    refine x_mmax X hl.1 n_Heap_countLayers_2 n_Heap_countLayers_3 n_Heap_countLayers_4 n_Heap_countLayers_5 (x_fr hR.1 rfl) (x_fr hR.2 rfl) ⟨Nat.zero_le _, Nat.zero_le _⟩ dX1_countLayers_21 ?_
    refine x_bi (fun x1_5 ex1_5 => ?_)
    replace hV := hV x1_5 ex1_5
    clear ex1_5
    refine x_istore_n X [(1, iV x1_5), (2, iV x2_1), (0, .ref (ad o))] dX1_countLayers_24 rfl hl (by decide) rfl (fun ls hl => ?_)
    refine x_iinc X (k := 1) (x2_1 + 1) [(2, iV (x2_1 + 1)), (1, iV x1_5), (0, .ref (ad o))] dX1_countLayers_25 hl rfl rfl (by decide) rfl (fun ls hl => ?_)
    refine x_goto X 4 dX1_countLayers_28 (by decide) ?_
    exact hbk4 (x2_1 + 1) x1_5 σ3 hV H locs ls hw hl

theorem n_Heap_countSign_0 : Cond.fieldLink RX1 15 "LacePillow$Heap" "signs" "[I" ∈ wsX1_countSign := by decide +kernel
theorem n_Heap_countSign_1 : ∀ w ∈ wsX10, w ∈ wsX1_countSign := by decide +kernel
set_option maxHeartbeats 4000000 in
set_option maxRecDepth 100000 in
theorem c_Heap_countSign (l : Launch) (G : GT) (ad : Nat → Nat) (hI : Inj LX ad) (o : Nat) (ho : isHeap o) (σ : St) (a1 : Int) {Q : Int → St → Prop} (hV : V_Heap_countSign o σ a1 Q) : Met l yX1_countSign wsX1_countSign (rmx 0 0) (Pq vwCl G LX ad σ [.ref (ad o), iV a1]) (Qi vwCl G LX ad Q) 0 0 (Ax LX ad) := by
  unfold V_Heap_countSign at hV
  refine x_meti (own := RX1) (by decide) rfl rfl (Nat.le_of_ble_eq_true rfl) hI ?_
  intro p e s m args below meth c R QQ X hR hret ls hl hw
  replace hl : lv_has ls 4 [(0, .ref (ad o)), (1, iV a1)] := hl
  obtain ⟨H, hH⟩ : ∃ z, z = s.heap := ⟨_, rfl⟩
  obtain ⟨locs, hlo⟩ : ∃ z : List Loc, z = [] := ⟨_, rfl⟩
  rw [← hH, ← hlo]
  replace hw : Wx vwCl G LX ad s H locs σ := by rw [hH, hlo]; exact hw
  clear hH hlo
  refine x_iconst X dX1_countSign_0 ?_
  refine x_istore_n X [(2, iV 0), (0, .ref (ad o)), (1, iV a1)] dX1_countSign_1 rfl hl (by decide) rfl (fun ls hl => ?_)
  refine x_iconst X dX1_countSign_2 ?_
  refine x_istore_n X [(3, iV 0), (2, iV 0), (0, .ref (ad o)), (1, iV a1)] dX1_countSign_3 rfl hl (by decide) rfl (fun ls hl => ?_)
  refine WL2.use (Gl := fun x3_1 x2_2 σ3 => ∀ (H : Heap) (locs : List Loc) (ls : Array Slot), Wx vwCl G LX ad s H locs σ3 → lv_has ls 4 [(3, iV x3_1), (2, iV x2_2), (0, .ref (ad o)), (1, iV a1)] → W p l e R s m args below meth c H locs 0 0 QQ (F0 m 4 ls [])) ?_ hV H locs ls hw hl
  clear hV hw hl H locs ls
  intro bk4 x3_1 x2_2 σ3 hbk4 hV H locs ls hw hl
  refine x_iload_n X dX1_countSign_4 rfl (lv_at hl 0 rfl) ?_
  refine x_sipush X dX1_countSign_5 (by decide) ?_
  refine x_icmp_ge X rfl k32_1440 30 dX1_countSign_8 (by decide) (fun hc => ?_) (fun hc => ?_)
  · replace hV := hV.1 hc
    refine x_iload_n X dX1_countSign_30 rfl (lv_at hl 1 rfl) ?_
    exact hret x2_2 σ3 H locs ls 31 hV hw dX1_countSign_31
  · replace hV := hV.2 hc
    refine x_aload_n X dX1_countSign_11 rfl (lv_at hl 2 rfl) ?_
    refine x_getr X hw (lfHeap ho) cX1 1 (by decide) rfl n_Heap_countSign_1 n_Heap_countSign_0 dX1_countSign_12 ?_
    refine x_iload_n X dX1_countSign_15 rfl (lv_at hl 0 rfl) ?_
    obtain ⟨hi, hV⟩ := hV
    refine x_iald X hw (lfHeap1 ho) rfl rfl hi dX1_countSign_16 ?_
    refine x_iload_n X dX1_countSign_17 rfl (lv_at hl 3 rfl) ?_
    refine x_icmp_ne X rfl rfl 24 dX1_countSign_18 (by decide) (fun hc => ?_) (fun hc => ?_)
    · replace hV := hV.1 hc
      refine x_iinc X (k := 0) (x3_1 + 1) [(3, iV (x3_1 + 1)), (2, iV x2_2), (0, .ref (ad o)), (1, iV a1)] dX1_countSign_24 hl rfl rfl (by decide) rfl (fun ls hl => ?_)
      refine x_goto X 4 dX1_countSign_27 (by decide) ?_
      exact hbk4 (x3_1 + 1) x2_2 σ3 hV H locs ls hw hl
    · replace hV := hV.2 hc
      refine x_iinc X (k := 1) (x2_2 + 1) [(2, iV (x2_2 + 1)), (3, iV x3_1), (0, .ref (ad o)), (1, iV a1)] dX1_countSign_21 hl rfl rfl (by decide) rfl (fun ls hl => ?_)
      refine x_iinc X (k := 1) (x3_1 + 1) [(3, iV (x3_1 + 1)), (2, iV (x2_2 + 1)), (0, .ref (ad o)), (1, iV a1)] dX1_countSign_24 hl rfl rfl (by decide) rfl (fun ls hl => ?_)
      refine x_goto X 4 dX1_countSign_27 (by decide) ?_
      exact hbk4 (x3_1 + 1) (x2_2 + 1) σ3 hV H locs ls hw hl

theorem n_Heap_isAs_0 : Cond.fieldLink RX1 15 "LacePillow$Heap" "signs" "[I" ∈ wsX1_isAs := by decide +kernel
theorem n_Heap_isAs_1 : ∀ w ∈ wsX10, w ∈ wsX1_isAs := by decide +kernel
set_option maxHeartbeats 4000000 in
set_option maxRecDepth 100000 in
theorem c_Heap_isAs (l : Launch) (G : GT) (ad : Nat → Nat) (hI : Inj LX ad) (σ : St) {Q : Int → St → Prop} (hV : V_Heap_isAs σ Q) : Met l yX1_isAs wsX1_isAs (rmx 0 0) (Pq vwCl G LX ad σ [.ref (ad 38), .ref (ad 13)]) (Qz vwCl G LX ad Q) 0 0 (Ax LX ad) := by
  unfold V_Heap_isAs at hV
  refine x_metz (own := RX1) (by decide) rfl rfl (Nat.le_of_ble_eq_true rfl) hI ?_
  intro p e s m args below meth c R QQ X hR hret ls hl hw
  replace hl : lv_has ls 3 [(0, .ref (ad 38)), (1, .ref (ad 13))] := hl
  obtain ⟨H, hH⟩ : ∃ z, z = s.heap := ⟨_, rfl⟩
  obtain ⟨locs, hlo⟩ : ∃ z : List Loc, z = [] := ⟨_, rfl⟩
  rw [← hH, ← hlo]
  replace hw : Wx vwCl G LX ad s H locs σ := by rw [hH, hlo]; exact hw
  clear hH hlo
  refine x_iconst X dX1_isAs_0 ?_
  refine x_istore_n X [(2, iV 0), (0, .ref (ad 38)), (1, .ref (ad 13))] dX1_isAs_1 rfl hl (by decide) rfl (fun ls hl => ?_)
  refine WL1.use (Gl := fun x2_1 σ2 => ∀ (H : Heap) (locs : List Loc) (ls : Array Slot), Wx vwCl G LX ad s H locs σ2 → lv_has ls 3 [(2, iV x2_1), (0, .ref (ad 38)), (1, .ref (ad 13))] → W p l e R s m args below meth c H locs 0 0 QQ (F0 m 2 ls [])) ?_ hV H locs ls hw hl
  clear hV hw hl H locs ls
  intro bk3 x2_1 σ2 hbk3 hV H locs ls hw hl
  refine x_iload_n X dX1_isAs_2 rfl (lv_at hl 0 rfl) ?_
  refine x_sipush X dX1_isAs_3 (by decide) ?_
  refine x_icmp_ge X rfl k32_1440 32 dX1_isAs_6 (by decide) (fun hc => ?_) (fun hc => ?_)
  · replace hV := hV.1 hc
    refine x_iconst X dX1_isAs_32 ?_
    exact hret 1 σ2 H locs ls 33 (by decide) hV hw dX1_isAs_33
  · replace hV := hV.2 hc
    refine x_aload_n X dX1_isAs_9 rfl (lv_at hl 1 rfl) ?_
    refine x_getr X hw lx38 cX1 1 (by decide) rfl n_Heap_isAs_1 n_Heap_isAs_0 dX1_isAs_10 ?_
    refine x_iload_n X dX1_isAs_13 rfl (lv_at hl 0 rfl) ?_
    obtain ⟨hi, hV⟩ := hV
    refine x_iald X hw lx39 rfl rfl hi dX1_isAs_14 ?_
    refine x_aload_n X dX1_isAs_15 rfl (lv_at hl 2 rfl) ?_
    refine x_getr X hw lx13 cX1 1 (by decide) rfl n_Heap_isAs_1 n_Heap_isAs_0 dX1_isAs_16 ?_
    refine x_iload_n X dX1_isAs_19 rfl (lv_at hl 0 rfl) ?_
    obtain ⟨hi, hV⟩ := hV
    refine x_iald X hw lx14 rfl rfl hi dX1_isAs_20 ?_
    refine x_icmp_eq X rfl rfl 26 dX1_isAs_21 (by decide) (fun hc => ?_) (fun hc => ?_)
    · replace hV := hV.1 hc
      refine x_iinc X (k := 0) (x2_1 + 1) [(2, iV (x2_1 + 1)), (0, .ref (ad 38)), (1, .ref (ad 13))] dX1_isAs_26 hl rfl rfl (by decide) rfl (fun ls hl => ?_)
      refine x_goto X 2 dX1_isAs_29 (by decide) ?_
      exact hbk3 (x2_1 + 1) σ2 hV H locs ls hw hl
    · replace hV := hV.2 hc
      refine x_iconst X dX1_isAs_24 ?_
      exact hret 0 σ2 H locs ls 25 (by decide) hV hw dX1_isAs_25

theorem n_Plan_copyFrom_0 : Cond.fieldLink RX2 9 "LacePillow$Plan" "pairs" "I" ∈ wsX2_copyFrom := by decide +kernel
theorem n_Plan_copyFrom_1 : ∀ w ∈ wsX20, w ∈ wsX2_copyFrom := by decide +kernel
theorem n_Plan_copyFrom_2 : Cond.fieldLink RX2 15 "LacePillow$Plan" "cells" "[I" ∈ wsX2_copyFrom := by decide +kernel
theorem n_Plan_copyFrom_3 : Cond.methodLink RX2 66 arraycopyName ∈ wsX2_copyFrom := by decide +kernel
theorem n_Plan_copyFrom_4 : Cond.native arraycopyName ∈ wsX2_copyFrom := by decide +kernel
theorem n_Plan_copyFrom_5 : Cond.static arraycopyName ∈ wsX2_copyFrom := by decide +kernel
theorem n_Plan_copyFrom_6 : Cond.initialized "java/lang/System" ∈ wsX2_copyFrom := by decide +kernel
theorem n_Plan_copyFrom_7 : Cond.fieldLink RX2 19 "LacePillow$Plan" "letters" "[I" ∈ wsX2_copyFrom := by decide +kernel
theorem n_Plan_copyFrom_8 : Cond.fieldLink RX2 22 "LacePillow$Plan" "lengths" "[I" ∈ wsX2_copyFrom := by decide +kernel
theorem n_Plan_copyFrom_9 : Cond.fieldLink RX2 25 "LacePillow$Plan" "wound" "[I" ∈ wsX2_copyFrom := by decide +kernel
theorem n_Plan_copyFrom_10 : Cond.fieldLink RX2 28 "LacePillow$Plan" "work" "[I" ∈ wsX2_copyFrom := by decide +kernel
theorem n_Plan_copyFrom_11 : Cond.fieldLink RX2 31 "LacePillow$Plan" "worked" "I" ∈ wsX2_copyFrom := by decide +kernel
set_option maxHeartbeats 4000000 in
set_option maxRecDepth 100000 in
theorem c_Plan_copyFrom (l : Launch) (G : GT) (ad : Nat → Nat) (hI : Inj LX ad) (o : Nat) (o2 : Nat) (ho : isPlan o) (ho2 : isPlan o2) (σ : St) {Q : St → Prop} (hV : V_Plan_copyFrom o o2 σ Q) : Met l yX2_copyFrom wsX2_copyFrom (rmx 1 100) (Pq vwCl G LX ad σ [.ref (ad o), .ref (ad o2)]) (Qv vwCl G LX ad Q) 0 0 (Ax LX ad) := by
  unfold V_Plan_copyFrom at hV
  refine x_metv (own := RX2) (by decide) rfl rfl (Nat.le_of_ble_eq_true rfl) hI ?_
  intro p e s m args below meth c R QQ X hR hret ls hl hw
  replace hl : lv_has ls 2 [(0, .ref (ad o)), (1, .ref (ad o2))] := hl
  obtain ⟨H, hH⟩ : ∃ z, z = s.heap := ⟨_, rfl⟩
  obtain ⟨locs, hlo⟩ : ∃ z : List Loc, z = [] := ⟨_, rfl⟩
  rw [← hH, ← hlo]
  replace hw : Wx vwCl G LX ad s H locs σ := by rw [hH, hlo]; exact hw
  clear hH hlo
  refine x_aload_n X dX2_copyFrom_0 rfl (lv_at hl 0 rfl) ?_
  refine x_aload_n X dX2_copyFrom_1 rfl (lv_at hl 1 rfl) ?_
  refine x_geti X hw (lfPlan ho2) cX2 0 (by decide) rfl n_Plan_copyFrom_1 n_Plan_copyFrom_0 dX2_copyFrom_2 ?_
  refine x_puti X hw (lfPlan ho) cX2 0 (by decide) rfl n_Plan_copyFrom_1 n_Plan_copyFrom_0 tyX2 tyX2_ok nmX2 rfl rfl rfl dX2_copyFrom_5 (fun H locs σ1 hs hw => ?_)
  replace hV := hV σ1 hs
  refine x_aload_n X dX2_copyFrom_8 rfl (lv_at hl 1 rfl) ?_
  refine x_getr X hw (lfPlan ho2) cX2 1 (by decide) rfl n_Plan_copyFrom_1 n_Plan_copyFrom_2 dX2_copyFrom_9 ?_
  refine x_iconst X dX2_copyFrom_12 ?_
  refine x_aload_n X dX2_copyFrom_13 rfl (lv_at hl 0 rfl) ?_
  refine x_getr X hw (lfPlan ho) cX2 1 (by decide) rfl n_Plan_copyFrom_1 n_Plan_copyFrom_2 dX2_copyFrom_14 ?_
  refine x_iconst X dX2_copyFrom_17 ?_
  refine x_bipush X dX2_copyFrom_18 (by decide) ?_
  refine x_copyi X hw hl.1 n_Plan_copyFrom_3 n_Plan_copyFrom_4 n_Plan_copyFrom_5 n_Plan_copyFrom_6 (lfPlan1 ho2) (lfPlan1 ho) 84 rfl k32_84 (by decide) (by decide) (x_fr hR.1 rfl) (x_fr hR.2 rfl) dX2_copyFrom_20 (fun H locs σ2 hs hw => ?_)
  replace hV := hV σ2 hs
  refine x_aload_n X dX2_copyFrom_23 rfl (lv_at hl 1 rfl) ?_
  refine x_getr X hw (lfPlan ho2) cX2 2 (by decide) rfl n_Plan_copyFrom_1 n_Plan_copyFrom_7 dX2_copyFrom_24 ?_
  refine x_iconst X dX2_copyFrom_27 ?_
  refine x_aload_n X dX2_copyFrom_28 rfl (lv_at hl 0 rfl) ?_
  refine x_getr X hw (lfPlan ho) cX2 2 (by decide) rfl n_Plan_copyFrom_1 n_Plan_copyFrom_7 dX2_copyFrom_29 ?_
  refine x_iconst X dX2_copyFrom_32 ?_
  refine x_bipush X dX2_copyFrom_33 (by decide) ?_
  refine x_copyi X hw hl.1 n_Plan_copyFrom_3 n_Plan_copyFrom_4 n_Plan_copyFrom_5 n_Plan_copyFrom_6 (lfPlan2 ho2) (lfPlan2 ho) 48 rfl k32_48 (by decide) (by decide) (x_fr hR.1 rfl) (x_fr hR.2 rfl) dX2_copyFrom_35 (fun H locs σ3 hs hw => ?_)
  replace hV := hV σ3 hs
  refine x_aload_n X dX2_copyFrom_38 rfl (lv_at hl 1 rfl) ?_
  refine x_getr X hw (lfPlan ho2) cX2 3 (by decide) rfl n_Plan_copyFrom_1 n_Plan_copyFrom_8 dX2_copyFrom_39 ?_
  refine x_iconst X dX2_copyFrom_42 ?_
  refine x_aload_n X dX2_copyFrom_43 rfl (lv_at hl 0 rfl) ?_
  refine x_getr X hw (lfPlan ho) cX2 3 (by decide) rfl n_Plan_copyFrom_1 n_Plan_copyFrom_8 dX2_copyFrom_44 ?_
  refine x_iconst X dX2_copyFrom_47 ?_
  refine x_bipush X dX2_copyFrom_48 (by decide) ?_
  refine x_copyi X hw hl.1 n_Plan_copyFrom_3 n_Plan_copyFrom_4 n_Plan_copyFrom_5 n_Plan_copyFrom_6 (lfPlan3 ho2) (lfPlan3 ho) 6 rfl k32_6 (by decide) (by decide) (x_fr hR.1 rfl) (x_fr hR.2 rfl) dX2_copyFrom_50 (fun H locs σ4 hs hw => ?_)
  replace hV := hV σ4 hs
  refine x_aload_n X dX2_copyFrom_53 rfl (lv_at hl 1 rfl) ?_
  refine x_getr X hw (lfPlan ho2) cX2 4 (by decide) rfl n_Plan_copyFrom_1 n_Plan_copyFrom_9 dX2_copyFrom_54 ?_
  refine x_iconst X dX2_copyFrom_57 ?_
  refine x_aload_n X dX2_copyFrom_58 rfl (lv_at hl 0 rfl) ?_
  refine x_getr X hw (lfPlan ho) cX2 4 (by decide) rfl n_Plan_copyFrom_1 n_Plan_copyFrom_9 dX2_copyFrom_59 ?_
  refine x_iconst X dX2_copyFrom_62 ?_
  refine x_bipush X dX2_copyFrom_63 (by decide) ?_
  refine x_copyi X hw hl.1 n_Plan_copyFrom_3 n_Plan_copyFrom_4 n_Plan_copyFrom_5 n_Plan_copyFrom_6 (lfPlan4 ho2) (lfPlan4 ho) 16 rfl k32_16 (by decide) (by decide) (x_fr hR.1 rfl) (x_fr hR.2 rfl) dX2_copyFrom_65 (fun H locs σ5 hs hw => ?_)
  replace hV := hV σ5 hs
  refine x_aload_n X dX2_copyFrom_68 rfl (lv_at hl 1 rfl) ?_
  refine x_getr X hw (lfPlan ho2) cX2 5 (by decide) rfl n_Plan_copyFrom_1 n_Plan_copyFrom_10 dX2_copyFrom_69 ?_
  refine x_iconst X dX2_copyFrom_72 ?_
  refine x_aload_n X dX2_copyFrom_73 rfl (lv_at hl 0 rfl) ?_
  refine x_getr X hw (lfPlan ho) cX2 5 (by decide) rfl n_Plan_copyFrom_1 n_Plan_copyFrom_10 dX2_copyFrom_74 ?_
  refine x_iconst X dX2_copyFrom_77 ?_
  refine x_bipush X dX2_copyFrom_78 (by decide) ?_
  refine x_copyi X hw hl.1 n_Plan_copyFrom_3 n_Plan_copyFrom_4 n_Plan_copyFrom_5 n_Plan_copyFrom_6 (lfPlan5 ho2) (lfPlan5 ho) 48 rfl k32_48 (by decide) (by decide) (x_fr hR.1 rfl) (x_fr hR.2 rfl) dX2_copyFrom_80 (fun H locs σ6 hs hw => ?_)
  replace hV := hV σ6 hs
  refine x_aload_n X dX2_copyFrom_83 rfl (lv_at hl 0 rfl) ?_
  refine x_aload_n X dX2_copyFrom_84 rfl (lv_at hl 1 rfl) ?_
  refine x_geti X hw (lfPlan ho2) cX2 6 (by decide) rfl n_Plan_copyFrom_1 n_Plan_copyFrom_11 dX2_copyFrom_85 ?_
  refine x_puti X hw (lfPlan ho) cX2 6 (by decide) rfl n_Plan_copyFrom_1 n_Plan_copyFrom_11 tyX2 tyX2_ok nmX2 rfl rfl rfl dX2_copyFrom_88 (fun H locs σ7 hs hw => ?_)
  replace hV := hV σ7 hs
  exact hret σ7 H locs ls 91 hV hw dX2_copyFrom_91

theorem n_Plan_crossingsOf_0 : Cond.fieldLink RX2 22 "LacePillow$Plan" "lengths" "[I" ∈ wsX2_crossingsOf := by decide +kernel
theorem n_Plan_crossingsOf_1 : ∀ w ∈ wsX20, w ∈ wsX2_crossingsOf := by decide +kernel
theorem n_Plan_crossingsOf_2 : Cond.fieldLink RX2 19 "LacePillow$Plan" "letters" "[I" ∈ wsX2_crossingsOf := by decide +kernel
set_option maxHeartbeats 4000000 in
set_option maxRecDepth 100000 in
theorem c_Plan_crossingsOf (l : Launch) (G : GT) (ad : Nat → Nat) (hI : Inj LX ad) (σ : St) (a1 : Int) {Q : Int → St → Prop} (hV : V_Plan_crossingsOf σ a1 Q) : Met l yX2_crossingsOf wsX2_crossingsOf (rmx 0 0) (Pq vwCl G LX ad σ [.ref (ad 1), iV a1]) (Qi vwCl G LX ad Q) 0 0 (Ax LX ad) := by
  unfold V_Plan_crossingsOf at hV
  refine x_meti (own := RX2) (by decide) rfl rfl (Nat.le_of_ble_eq_true rfl) hI ?_
  intro p e s m args below meth c R QQ X hR hret ls hl hw
  replace hl : lv_has ls 5 [(0, .ref (ad 1)), (1, iV a1)] := hl
  obtain ⟨H, hH⟩ : ∃ z, z = s.heap := ⟨_, rfl⟩
  obtain ⟨locs, hlo⟩ : ∃ z : List Loc, z = [] := ⟨_, rfl⟩
  rw [← hH, ← hlo]
  replace hw : Wx vwCl G LX ad s H locs σ := by rw [hH, hlo]; exact hw
  clear hH hlo
  refine x_iconst X dX2_crossingsOf_0 ?_
  refine x_istore_n X [(2, iV 0), (0, .ref (ad 1)), (1, iV a1)] dX2_crossingsOf_1 rfl hl (by decide) rfl (fun ls hl => ?_)
  refine x_iconst X dX2_crossingsOf_2 ?_
  refine x_istore_n X [(3, iV 0), (2, iV 0), (0, .ref (ad 1)), (1, iV a1)] dX2_crossingsOf_3 rfl hl (by decide) rfl (fun ls hl => ?_)
  refine WL2.use (Gl := fun x3_1 x2_2 σ3 => ∀ (H : Heap) (locs : List Loc) (ls : Array Slot), Wx vwCl G LX ad s H locs σ3 → lv_has ls 5 [(3, iV x3_1), (2, iV x2_2), (0, .ref (ad 1)), (1, iV a1)] → W p l e R s m args below meth c H locs 0 0 QQ (F0 m 4 ls [])) ?_ hV H locs ls hw hl
  clear hV hw hl H locs ls
  intro bk4 x3_1 x2_2 σ3 hbk4 hV H locs ls hw hl
  refine x_iload_n X dX2_crossingsOf_4 rfl (lv_at hl 0 rfl) ?_
  refine x_aload_n X dX2_crossingsOf_5 rfl (lv_at hl 2 rfl) ?_
  refine x_getr X hw lx1 cX2 3 (by decide) rfl n_Plan_crossingsOf_1 n_Plan_crossingsOf_0 dX2_crossingsOf_6 ?_
  refine x_iload_n X dX2_crossingsOf_9 rfl (lv_at hl 3 rfl) ?_
  obtain ⟨hi, hV⟩ := hV
  refine x_iald X hw lx4 rfl rfl hi dX2_crossingsOf_10 ?_
  refine x_icmp_ge X rfl rfl 55 dX2_crossingsOf_11 (by decide) (fun hc => ?_) (fun hc => ?_)
  · replace hV := hV.1 hc
    refine x_iload_n X dX2_crossingsOf_55 rfl (lv_at hl 1 rfl) ?_
    exact hret x2_2 σ3 H locs ls 56 hV hw dX2_crossingsOf_56
  · replace hV := hV.2 hc
    refine x_aload_n X dX2_crossingsOf_14 rfl (lv_at hl 2 rfl) ?_
    refine x_getr X hw lx1 cX2 2 (by decide) rfl n_Plan_crossingsOf_1 n_Plan_crossingsOf_2 dX2_crossingsOf_15 ?_
    refine x_iload_n X dX2_crossingsOf_18 rfl (lv_at hl 3 rfl) ?_
    refine x_bipush X dX2_crossingsOf_19 (by decide) ?_
    refine x_imul X dX2_crossingsOf_21 ?_
    refine x_iload_n X dX2_crossingsOf_22 rfl (lv_at hl 0 rfl) ?_
    refine x_iadd X dX2_crossingsOf_23 ?_
    obtain ⟨hi, hV⟩ := hV
    refine x_iald X hw lx3 rfl rfl hi dX2_crossingsOf_24 ?_
    refine x_bi (fun x4_5 ex4_5 => ?_)
    replace hV := hV x4_5 ex4_5
    clear ex4_5
    refine x_istore X [(4, iV x4_5), (3, iV x3_1), (2, iV x2_2), (0, .ref (ad 1)), (1, iV a1)] dX2_crossingsOf_25 hl (by decide) rfl (fun ls hl => ?_)
    refine x_iload_n X dX2_crossingsOf_27 rfl (lv_at hl 2 rfl) ?_
    refine x_iload X dX2_crossingsOf_28 (lv_at hl 0 rfl) ?_
    refine x_bipush X dX2_crossingsOf_30 (by decide) ?_
    refine x_icmp_eq X rfl k32_99 42 dX2_crossingsOf_32 (by decide) (fun hc => ?_) (fun hc => ?_)
    · replace hV := hV.1 hc
      refine x_iconst X dX2_crossingsOf_42 ?_
      refine x_goto X 47 dX2_crossingsOf_43 (by decide) ?_
      refine x_iadd X dX2_crossingsOf_47 ?_
      refine x_bi (fun x2_6 ex2_6 => ?_)
      replace hV := hV x2_6 ex2_6
      clear ex2_6
      refine x_istore_n X [(2, iV x2_6), (4, iV x4_5), (3, iV x3_1), (0, .ref (ad 1)), (1, iV a1)] dX2_crossingsOf_48 rfl hl (by decide) rfl (fun ls hl => ?_)
      refine x_iinc X (k := 2) (x3_1 + 1) [(3, iV (x3_1 + 1)), (2, iV x2_6), (4, iV x4_5), (0, .ref (ad 1)), (1, iV a1)] dX2_crossingsOf_49 hl rfl rfl (by decide) rfl (fun ls hl => ?_)
      refine x_goto X 4 dX2_crossingsOf_52 (by decide) ?_
      exact hbk4 (x3_1 + 1) x2_6 σ3 hV H locs ls hw (lv_sub hl [0, 1, 3, 4] rfl)
    · replace hV := hV.2 hc
      refine x_iload X dX2_crossingsOf_35 (lv_at hl 0 rfl) ?_
      refine x_bipush X dX2_crossingsOf_37 (by decide) ?_
      refine x_icmp_ne X rfl k32_67 46 dX2_crossingsOf_39 (by decide) (fun hc => ?_) (fun hc => ?_)
      · replace hV := hV.1 hc
        refine x_iconst X dX2_crossingsOf_46 ?_
        refine x_iadd X dX2_crossingsOf_47 ?_
        refine x_bi (fun x2_7 ex2_7 => ?_)
        replace hV := hV x2_7 ex2_7
        clear ex2_7
        refine x_istore_n X [(2, iV x2_7), (4, iV x4_5), (3, iV x3_1), (0, .ref (ad 1)), (1, iV a1)] dX2_crossingsOf_48 rfl hl (by decide) rfl (fun ls hl => ?_)
        refine x_iinc X (k := 2) (x3_1 + 1) [(3, iV (x3_1 + 1)), (2, iV x2_7), (4, iV x4_5), (0, .ref (ad 1)), (1, iV a1)] dX2_crossingsOf_49 hl rfl rfl (by decide) rfl (fun ls hl => ?_)
        refine x_goto X 4 dX2_crossingsOf_52 (by decide) ?_
        exact hbk4 (x3_1 + 1) x2_7 σ3 hV H locs ls hw (lv_sub hl [0, 1, 3, 4] rfl)
      · replace hV := hV.2 hc
        refine x_iconst X dX2_crossingsOf_42 ?_
        refine x_goto X 47 dX2_crossingsOf_43 (by decide) ?_
        refine x_iadd X dX2_crossingsOf_47 ?_
        refine x_bi (fun x2_8 ex2_8 => ?_)
        replace hV := hV x2_8 ex2_8
        clear ex2_8
        refine x_istore_n X [(2, iV x2_8), (4, iV x4_5), (3, iV x3_1), (0, .ref (ad 1)), (1, iV a1)] dX2_crossingsOf_48 rfl hl (by decide) rfl (fun ls hl => ?_)
        refine x_iinc X (k := 2) (x3_1 + 1) [(3, iV (x3_1 + 1)), (2, iV x2_8), (4, iV x4_5), (0, .ref (ad 1)), (1, iV a1)] dX2_crossingsOf_49 hl rfl rfl (by decide) rfl (fun ls hl => ?_)
        refine x_goto X 4 dX2_crossingsOf_52 (by decide) ?_
        exact hbk4 (x3_1 + 1) x2_8 σ3 hV H locs ls hw (lv_sub hl [0, 1, 3, 4] rfl)

theorem n_Plan_repeatsBy_0 : Cond.fieldLink RX2 15 "LacePillow$Plan" "cells" "[I" ∈ wsX2_repeatsBy := by decide +kernel
theorem n_Plan_repeatsBy_1 : ∀ w ∈ wsX20, w ∈ wsX2_repeatsBy := by decide +kernel
set_option maxHeartbeats 4000000 in
set_option maxRecDepth 100000 in
theorem c_Plan_repeatsBy (l : Launch) (G : GT) (ad : Nat → Nat) (hI : Inj LX ad) (σ : St) (a1 : Int) (a2 : Int) {Q : Int → St → Prop} (hV : V_Plan_repeatsBy σ a1 a2 Q) : Met l yX2_repeatsBy wsX2_repeatsBy (rmx 0 0) (Pq vwCl G LX ad σ [.ref (ad 1), iV a1, iV a2]) (Qz vwCl G LX ad Q) 0 0 (Ax LX ad) := by
  unfold V_Plan_repeatsBy at hV
  refine x_metz (own := RX2) (by decide) rfl rfl (Nat.le_of_ble_eq_true rfl) hI ?_
  intro p e s m args below meth c R QQ X hR hret ls hl hw
  replace hl : lv_has ls 5 [(0, .ref (ad 1)), (1, iV a1), (2, iV a2)] := hl
  obtain ⟨H, hH⟩ : ∃ z, z = s.heap := ⟨_, rfl⟩
  obtain ⟨locs, hlo⟩ : ∃ z : List Loc, z = [] := ⟨_, rfl⟩
  rw [← hH, ← hlo]
  replace hw : Wx vwCl G LX ad s H locs σ := by rw [hH, hlo]; exact hw
  clear hH hlo
  refine x_iload_n X dX2_repeatsBy_0 rfl (lv_at hl 1 rfl) ?_
  refine x_istore_n X [(3, iV a1), (0, .ref (ad 1)), (1, iV a1), (2, iV a2)] dX2_repeatsBy_1 rfl hl (by decide) rfl (fun ls hl => ?_)
  refine WL1.use (Gl := fun x3_1 σ2 => ∀ (H : Heap) (locs : List Loc) (ls : Array Slot), Wx vwCl G LX ad s H locs σ2 → lv_has ls 5 [(3, iV x3_1), (0, .ref (ad 1)), (1, iV a1), (2, iV a2)] → W p l e R s m args below meth c H locs 0 0 QQ (F0 m 2 ls [])) ?_ hV H locs ls hw hl
  clear hV hw hl H locs ls
  intro bk3 x3_1 σ2 hbk3 hV H locs ls hw hl
  refine x_iload_n X dX2_repeatsBy_2 rfl (lv_at hl 0 rfl) ?_
  refine x_iload_n X dX2_repeatsBy_3 rfl (lv_at hl 3 rfl) ?_
  refine x_icmp_ge X rfl rfl 60 dX2_repeatsBy_4 (by decide) (fun hc => ?_) (fun hc => ?_)
  · replace hV := hV.1 hc
    refine x_iconst X dX2_repeatsBy_60 ?_
    exact hret 1 σ2 H locs ls 61 (by decide) hV hw dX2_repeatsBy_61
  · replace hV := hV.2 hc
    refine x_iconst X dX2_repeatsBy_7 ?_
    refine x_istore X [(4, iV 0), (3, iV x3_1), (0, .ref (ad 1)), (1, iV a1), (2, iV a2)] dX2_repeatsBy_8 hl (by decide) rfl (fun ls hl => ?_)
    refine WL1.use (Gl := fun x4_4 σ5 => ∀ (H : Heap) (locs : List Loc) (ls : Array Slot), Wx vwCl G LX ad s H locs σ5 → lv_has ls 5 [(4, iV x4_4), (3, iV x3_1), (0, .ref (ad 1)), (1, iV a1), (2, iV a2)] → W p l e R s m args below meth c H locs 0 0 QQ (F0 m 10 ls [])) ?_ hV H locs ls hw hl
    clear hV hw hl H locs ls
    intro bk6 x4_4 σ5 hbk6 hV H locs ls hw hl
    refine x_iload X dX2_repeatsBy_10 (lv_at hl 0 rfl) ?_
    refine x_bipush X dX2_repeatsBy_12 (by decide) ?_
    refine x_icmp_ge X rfl k32_7 54 dX2_repeatsBy_14 (by decide) (fun hc => ?_) (fun hc => ?_)
    · replace hV := hV.1 hc
      refine x_iinc X (k := 1) (x3_1 + 1) [(3, iV (x3_1 + 1)), (4, iV x4_4), (0, .ref (ad 1)), (1, iV a1), (2, iV a2)] dX2_repeatsBy_54 hl rfl rfl (by decide) rfl (fun ls hl => ?_)
      refine x_goto X 2 dX2_repeatsBy_57 (by decide) ?_
      exact hbk3 (x3_1 + 1) σ5 hV H locs ls hw (lv_sub hl [0, 2, 3, 4] rfl)
    · replace hV := hV.2 hc
      refine x_aload_n X dX2_repeatsBy_17 rfl (lv_at hl 2 rfl) ?_
      refine x_getr X hw lx1 cX2 1 (by decide) rfl n_Plan_repeatsBy_1 n_Plan_repeatsBy_0 dX2_repeatsBy_18 ?_
      refine x_iload_n X dX2_repeatsBy_21 rfl (lv_at hl 1 rfl) ?_
      refine x_bipush X dX2_repeatsBy_22 (by decide) ?_
      refine x_imul X dX2_repeatsBy_24 ?_
      refine x_iload X dX2_repeatsBy_25 (lv_at hl 0 rfl) ?_
      refine x_iadd X dX2_repeatsBy_27 ?_
      obtain ⟨hi, hV⟩ := hV
      refine x_iald X hw lx2 rfl rfl hi dX2_repeatsBy_28 ?_
      refine x_aload_n X dX2_repeatsBy_29 rfl (lv_at hl 2 rfl) ?_
      refine x_getr X hw lx1 cX2 1 (by decide) rfl n_Plan_repeatsBy_1 n_Plan_repeatsBy_0 dX2_repeatsBy_30 ?_
      refine x_iload_n X dX2_repeatsBy_33 rfl (lv_at hl 1 rfl) ?_
      refine x_iload_n X dX2_repeatsBy_34 rfl (lv_at hl 3 rfl) ?_
      refine x_isub X dX2_repeatsBy_35 ?_
      refine x_bipush X dX2_repeatsBy_36 (by decide) ?_
      refine x_imul X dX2_repeatsBy_38 ?_
      refine x_iload X dX2_repeatsBy_39 (lv_at hl 0 rfl) ?_
      refine x_iadd X dX2_repeatsBy_41 ?_
      obtain ⟨hi, hV⟩ := hV
      refine x_iald X hw lx2 rfl rfl hi dX2_repeatsBy_42 ?_
      refine x_icmp_eq X rfl rfl 48 dX2_repeatsBy_43 (by decide) (fun hc => ?_) (fun hc => ?_)
      · replace hV := hV.1 hc
        refine x_iinc X (k := 0) (x4_4 + 1) [(4, iV (x4_4 + 1)), (3, iV x3_1), (0, .ref (ad 1)), (1, iV a1), (2, iV a2)] dX2_repeatsBy_48 hl rfl rfl (by decide) rfl (fun ls hl => ?_)
        refine x_goto X 10 dX2_repeatsBy_51 (by decide) ?_
        exact hbk6 (x4_4 + 1) σ5 hV H locs ls hw hl
      · replace hV := hV.2 hc
        refine x_iconst X dX2_repeatsBy_46 ?_
        exact hret 0 σ5 H locs ls 47 (by decide) hV hw dX2_repeatsBy_47

theorem n_Plan_fitsCell_0 : Cond.constantLong RX2 85 (-2) ∈ wsX2_fitsCell := by decide +kernel
set_option maxHeartbeats 4000000 in
set_option maxRecDepth 100000 in
theorem c_Plan_fitsCell (l : Launch) (G : GT) (ad : Nat → Nat) (hI : Inj LX ad) (σ : St) (a1 : Int) (a2 : Int) {Q : Int → St → Prop} (hV : V_Plan_fitsCell σ a1 a2 Q) : Met l yX2_fitsCell wsX2_fitsCell (rmx 0 0) (Pq vwCl G LX ad σ [lV a1, iV a2]) (Qz vwCl G LX ad Q) 0 0 (Ax LX ad) := by
  unfold V_Plan_fitsCell at hV
  refine x_metz (own := RX2) (by decide) rfl rfl (Nat.le_of_ble_eq_true rfl) hI ?_
  intro p e s m args below meth c R QQ X hR hret ls hl hw
  replace hl : lv_has ls 3 [(0, lV a1), (2, iV a2)] := hl
  obtain ⟨H, hH⟩ : ∃ z, z = s.heap := ⟨_, rfl⟩
  obtain ⟨locs, hlo⟩ : ∃ z : List Loc, z = [] := ⟨_, rfl⟩
  rw [← hH, ← hlo]
  replace hw : Wx vwCl G LX ad s H locs σ := by rw [hH, hlo]; exact hw
  clear hH hlo
  refine x_lload_n X dX2_fitsCell_0 rfl (lv_at hl 0 rfl) ?_
  refine x_ldc2 X (-2) n_Plan_fitsCell_0 (by decide) dX2_fitsCell_1 ?_
  refine x_lcmp_eq X rfl k64_m2 15 dX2_fitsCell_4 dX2_fitsCell_5 (by decide) (fun hc => ?_) (fun hc => ?_)
  · replace hV := hV.1 hc
    refine x_iconst X dX2_fitsCell_15 ?_
    refine x_goto X 20 dX2_fitsCell_16 (by decide) ?_
    exact hret 1 σ H locs ls 20 (by decide) hV hw dX2_fitsCell_20
  · replace hV := hV.2 hc
    refine x_lload_n X dX2_fitsCell_8 rfl (lv_at hl 0 rfl) ?_
    refine x_iload_n X dX2_fitsCell_9 rfl (lv_at hl 1 rfl) ?_
    refine x_i2l X dX2_fitsCell_10 ?_
    refine x_lcmp_ne X rfl (i64_i32 _) 19 dX2_fitsCell_11 dX2_fitsCell_12 (by decide) (fun hc => ?_) (fun hc => ?_)
    · replace hV := hV.1 hc
      refine x_iconst X dX2_fitsCell_19 ?_
      exact hret 0 σ H locs ls 20 (by decide) hV hw dX2_fitsCell_20
    · replace hV := hV.2 hc
      refine x_iconst X dX2_fitsCell_15 ?_
      refine x_goto X 20 dX2_fitsCell_16 (by decide) ?_
      exact hret 1 σ H locs ls 20 (by decide) hV hw dX2_fitsCell_20

theorem n_Plan_fits_0 : Cond.fieldLink RX2 9 "LacePillow$Plan" "pairs" "I" ∈ wsX2_fits := by decide +kernel
theorem n_Plan_fits_1 : ∀ w ∈ wsX20, w ∈ wsX2_fits := by decide +kernel
theorem n_Plan_fits_2 : Cond.fieldLink RX2 72 "LacePillow$Sheet" "size" "I" ∈ wsX2_fits := by decide +kernel
theorem n_Plan_fits_3 : ∀ w ∈ wsX30, w ∈ wsX2_fits := by decide +kernel
theorem n_Plan_fits_4 : Cond.fieldLink RX2 77 "LacePillow$Sheet" "numbers" "[J" ∈ wsX2_fits := by decide +kernel
theorem n_Plan_fits_5 : Cond.fieldLink RX2 15 "LacePillow$Plan" "cells" "[I" ∈ wsX2_fits := by decide +kernel
set_option maxHeartbeats 4000000 in
set_option maxRecDepth 100000 in
theorem c_Plan_fits (l : Launch) (G : GT) (ad : Nat → Nat) (hI : Inj LX ad) (sh : Nat) (hsh : isSheet sh) (σ : St) (a1 : Int) (a2 : Int) (a3 : Int) {Q : Int → St → Prop} (hV : V_Plan_fits sh σ a1 a2 a3 Q) : Met l yX2_fits wsX2_fits (rmx 1 22) (Pq vwCl G LX ad σ [.ref (ad 1), .ref (ad sh), iV a1, iV a2, iV a3]) (Qz vwCl G LX ad Q) 0 0 (Ax LX ad) := by
  unfold V_Plan_fits at hV
  refine x_metz (own := RX2) (by decide) rfl rfl (Nat.le_of_ble_eq_true rfl) hI ?_
  intro p e s m args below meth c R QQ X hR hret ls hl hw
  replace hl : lv_has ls 8 [(0, .ref (ad 1)), (1, .ref (ad sh)), (2, iV a1), (3, iV a2), (4, iV a3)] := hl
  obtain ⟨H, hH⟩ : ∃ z, z = s.heap := ⟨_, rfl⟩
  obtain ⟨locs, hlo⟩ : ∃ z : List Loc, z = [] := ⟨_, rfl⟩
  rw [← hH, ← hlo]
  replace hw : Wx vwCl G LX ad s H locs σ := by rw [hH, hlo]; exact hw
  clear hH hlo
  refine x_iload X dX2_fits_0 (lv_at hl 4 rfl) ?_
  refine x_iload_n X dX2_fits_2 rfl (lv_at hl 2 rfl) ?_
  refine x_iadd X dX2_fits_3 ?_
  refine x_aload_n X dX2_fits_4 rfl (lv_at hl 0 rfl) ?_
  refine x_geti X hw lx1 cX2 0 (by decide) rfl n_Plan_fits_1 n_Plan_fits_0 dX2_fits_5 ?_
  refine x_iconst X dX2_fits_8 ?_
  refine x_isub X dX2_fits_9 ?_
  refine x_icmp_le X rfl rfl 15 dX2_fits_10 (by decide) (fun hc => ?_) (fun hc => ?_)
  · replace hV := hV.1 hc
    refine x_iload_n X dX2_fits_15 rfl (lv_at hl 3 rfl) ?_
    refine x_istore X [(5, iV a2), (0, .ref (ad 1)), (1, .ref (ad sh)), (2, iV a1), (3, iV a2), (4, iV a3)] dX2_fits_16 hl (by decide) rfl (fun ls hl => ?_)
    refine x_iconst X dX2_fits_18 ?_
    refine x_istore X [(6, iV 0), (5, iV a2), (0, .ref (ad 1)), (1, .ref (ad sh)), (2, iV a1), (3, iV a2), (4, iV a3)] dX2_fits_19 hl (by decide) rfl (fun ls hl => ?_)
    refine x_iconst X dX2_fits_21 ?_
    refine x_istore X [(7, iV 0), (6, iV 0), (5, iV a2), (0, .ref (ad 1)), (1, .ref (ad sh)), (2, iV a1), (3, iV a2), (4, iV a3)] dX2_fits_22 hl (by decide) rfl (fun ls hl => ?_)
    refine WL3.use (Gl := fun x7_1 x6_2 x5_3 σ4 => ∀ (H : Heap) (locs : List Loc) (ls : Array Slot), Wx vwCl G LX ad s H locs σ4 → lv_has ls 8 [(7, iV x7_1), (6, iV x6_2), (5, iV x5_3), (0, .ref (ad 1)), (1, .ref (ad sh)), (2, iV a1), (4, iV a3)] → W p l e R s m args below meth c H locs 0 0 QQ (F0 m 24 ls [])) ?_ hV H locs ls hw (lv_sub hl [0, 1, 2, 3, 4, 5, 7] rfl)
    clear hV hw hl H locs ls
    intro bk5 x7_1 x6_2 x5_3 σ4 hbk5 hV H locs ls hw hl
    refine x_iload X dX2_fits_24 (lv_at hl 0 rfl) ?_
    refine x_aload_n X dX2_fits_26 rfl (lv_at hl 4 rfl) ?_
    refine x_geti X hw (lfSheet hsh) cX3 1 (by decide) rfl n_Plan_fits_3 n_Plan_fits_2 dX2_fits_27 ?_
    refine x_icmp_ge X rfl rfl 92 dX2_fits_30 (by decide) (fun hc => ?_) (fun hc => ?_)
    · replace hV := hV.1 hc
      refine x_iconst X dX2_fits_92 ?_
      exact hret 1 σ4 H locs ls 93 (by decide) hV hw dX2_fits_93
    · replace hV := hV.2 hc
      refine x_iload X dX2_fits_33 (lv_at hl 2 rfl) ?_
      refine x_bipush X dX2_fits_35 (by decide) ?_
      refine x_icmp_ge X rfl k32_12 69 dX2_fits_37 (by decide) (fun hc => ?_) (fun hc => ?_)
      · replace hV := hV.1 hc
        refine x_iconst X dX2_fits_69 ?_
        exact hret 0 σ4 H locs ls 70 (by decide) hV hw dX2_fits_70
      · replace hV := hV.2 hc
        refine x_aload_n X dX2_fits_40 rfl (lv_at hl 4 rfl) ?_
        refine x_getr X hw (lfSheet hsh) cX3 2 (by decide) rfl n_Plan_fits_3 n_Plan_fits_4 dX2_fits_41 ?_
        refine x_iload X dX2_fits_44 (lv_at hl 0 rfl) ?_
        obtain ⟨hi, hV⟩ := hV
        refine x_lald X hw (lfSheet1 hsh) rfl rfl hi dX2_fits_46 ?_
        refine x_aload_n X dX2_fits_47 rfl (lv_at hl 3 rfl) ?_
        refine x_getr X hw lx1 cX2 1 (by decide) rfl n_Plan_fits_1 n_Plan_fits_5 dX2_fits_48 ?_
        refine x_iload X dX2_fits_51 (lv_at hl 2 rfl) ?_
        refine x_bipush X dX2_fits_53 (by decide) ?_
        refine x_imul X dX2_fits_55 ?_
        refine x_iload X dX2_fits_56 (lv_at hl 6 rfl) ?_
        refine x_iadd X dX2_fits_58 ?_
        refine x_iload X dX2_fits_59 (lv_at hl 1 rfl) ?_
        refine x_iadd X dX2_fits_61 ?_
        obtain ⟨hi, hV⟩ := hV
        refine x_iald X hw lx2 rfl rfl hi dX2_fits_62 ?_
        refine x_csz X hw [lV (σ4 (sh + 1) (i32 x7_1)), iV (σ4 2 (i32 (((x5_3 * 7) + a3) + x6_2)))] [] (c_Plan_fitsCell l G ad hI σ4 (σ4 (sh + 1) (i32 x7_1)) (σ4 2 (i32 (((x5_3 * 7) + a3) + x6_2))) hV) (va_cwS 2 X.2.2.2.2 gX2_fits_X2_fitsCell rfl rfl rfl hd_Plan_fitsCell ⟨x_fr hR.1 rfl, x_fr hR.2 rfl⟩) rfl hl.1 rfl (Nat.le_of_ble_eq_true rfl) dX2_fits_63 ⟨Nat.zero_le _, Nat.zero_le _⟩ (fun r7 σ6 H locs hr7 hV hw => ?_)
        refine x_if_ne X rfl 71 dX2_fits_66 (by decide) (fun hc => ?_) (fun hc => ?_)
        · replace hV := hV.1 hc
          refine x_iinc X (k := 1) (x6_2 + 1) [(6, iV (x6_2 + 1)), (7, iV x7_1), (5, iV x5_3), (0, .ref (ad 1)), (1, .ref (ad sh)), (2, iV a1), (4, iV a3)] dX2_fits_71 hl rfl rfl (by decide) rfl (fun ls hl => ?_)
          refine x_iload X dX2_fits_74 (lv_at hl 0 rfl) ?_
          refine x_iload_n X dX2_fits_76 rfl (lv_at hl 5 rfl) ?_
          refine x_icmp_ne X rfl rfl 86 dX2_fits_77 (by decide) (fun hc => ?_) (fun hc => ?_)
          · replace hV := hV.1 hc
            refine x_iinc X (k := 1) (x7_1 + 1) [(7, iV (x7_1 + 1)), (6, iV (x6_2 + 1)), (5, iV x5_3), (0, .ref (ad 1)), (1, .ref (ad sh)), (2, iV a1), (4, iV a3)] dX2_fits_86 hl rfl rfl (by decide) rfl (fun ls hl => ?_)
            refine x_goto X 24 dX2_fits_89 (by decide) ?_
            exact hbk5 (x7_1 + 1) (x6_2 + 1) x5_3 σ6 hV H locs ls hw hl
          · replace hV := hV.2 hc
            refine x_iconst X dX2_fits_80 ?_
            refine x_istore X [(6, iV 0), (7, iV x7_1), (5, iV x5_3), (0, .ref (ad 1)), (1, .ref (ad sh)), (2, iV a1), (4, iV a3)] dX2_fits_81 hl (by decide) rfl (fun ls hl => ?_)
            refine x_iinc X (k := 2) (x5_3 + 1) [(5, iV (x5_3 + 1)), (6, iV 0), (7, iV x7_1), (0, .ref (ad 1)), (1, .ref (ad sh)), (2, iV a1), (4, iV a3)] dX2_fits_83 hl rfl rfl (by decide) rfl (fun ls hl => ?_)
            refine x_iinc X (k := 2) (x7_1 + 1) [(7, iV (x7_1 + 1)), (5, iV (x5_3 + 1)), (6, iV 0), (0, .ref (ad 1)), (1, .ref (ad sh)), (2, iV a1), (4, iV a3)] dX2_fits_86 hl rfl rfl (by decide) rfl (fun ls hl => ?_)
            refine x_goto X 24 dX2_fits_89 (by decide) ?_
            exact hbk5 (x7_1 + 1) 0 (x5_3 + 1) σ6 hV H locs ls hw (lv_sub hl [0, 2, 1, 3, 4, 5, 6] rfl)
        · replace hV := hV.2 hc
          refine x_iconst X dX2_fits_69 ?_
          exact hret 0 σ6 H locs ls 70 (by decide) hV hw dX2_fits_70
  · replace hV := hV.2 hc
    refine x_iconst X dX2_fits_13 ?_
    exact hret 0 σ H locs ls 14 (by decide) hV hw dX2_fits_14
