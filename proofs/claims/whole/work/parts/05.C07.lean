theorem n_M_orders_0 : Cond.fieldLink RX8 120 "LacePillowModel" "many" "I" ∈ wsX8_orders := by decide +kernel
theorem n_M_orders_1 : ∀ w ∈ wsX80, w ∈ wsX8_orders := by decide +kernel
theorem n_M_orders_2 : Cond.constant RX8 171 (-1000000004) ∈ wsX8_orders := by decide +kernel
set_option maxHeartbeats 4000000 in
set_option maxRecDepth 100000 in
theorem c_M_orders (l : Launch) (G : GT) (ad : Nat → Nat) (hI : Inj LM ad) (σ : St) {Q : Int → St → Prop} (hV : V_M_orders σ Q) : Met l yX8_orders wsX8_orders (rmx 24 599) (Pq vwCl G LM ad σ [.ref (ad 0)]) (Ql vwCl G LM ad Q) 0 0 (Ax LM ad) := by
  unfold V_M_orders at hV
  refine x_metl (own := RX8) (by decide) rfl rfl (Nat.le_of_ble_eq_true rfl) hI ?_
  intro p e s m args below meth c R QQ X hR hret ls hl hw
  replace hl : lv_has ls 1 [(0, .ref (ad 0))] := hl
  obtain ⟨H, hH⟩ : ∃ z, z = s.heap := ⟨_, rfl⟩
  obtain ⟨locs, hlo⟩ : ∃ z : List Loc, z = [] := ⟨_, rfl⟩
  rw [← hH, ← hlo]
  replace hw : Wx vwCl G LM ad s H locs σ := by rw [hH, hlo]; exact hw
  clear hH hlo
  refine x_aload_n X dX8_orders_0 rfl (lv_at hl 0 rfl) ?_
  refine x_geti X hw lm0 cX8 5 (by decide) rfl n_M_orders_1 n_M_orders_0 dX8_orders_1 ?_
  refine x_bipush X dX8_orders_4 (by decide) ?_
  refine x_icmp_le X rfl k32_20 16 dX8_orders_6 (by decide) (fun hc => ?_) (fun hc => ?_)
  · replace hV := hV.1 hc
    refine x_aload_n X dX8_orders_16 rfl (lv_at hl 0 rfl) ?_
    refine x_cvv X hw [] [] (c_M_forgets l G ad hI σ hV) (cwV 0 X.2.2.2.2 gX8_orders_X8_forgets rfl rfl rfl hd_M_forgets ⟨x_fr hR.1 rfl, x_fr hR.2 rfl⟩) lm0 cX8 rfl hl.1 rfl (Nat.le_of_ble_eq_true rfl) dX8_orders_17 ⟨Nat.zero_le _, Nat.zero_le _⟩ (fun σ1 H locs hV hw => ?_)
    refine x_aload_n X dX8_orders_20 rfl (lv_at hl 0 rfl) ?_
    refine x_iconst X dX8_orders_21 ?_
    obtain ⟨n, hn, hV⟩ := hV
    refine x_cvl X hw [iV 0] [] (c_M_ways l G ad hI n σ1 0 hV) (cwV 1 X.2.2.2.2 gX8_orders_X8_ways rfl rfl rfl hd_M_ways ⟨by have := hR.1; simp only [rmx]; omega, by have := hR.2; simp only [rmx]; omega⟩) lm0 cX8 rfl hl.1 rfl (Nat.le_of_ble_eq_true rfl) dX8_orders_22 ⟨Nat.zero_le _, Nat.zero_le _⟩ (fun r3 σ2 H locs hV hw => ?_)
    exact hret r3 σ2 H locs ls 25 hV hw dX8_orders_25
  · replace hV := hV.2 hc
    refine x_aload_n X dX8_orders_9 rfl (lv_at hl 0 rfl) ?_
    refine x_ldc X (-1000000004) n_M_orders_2 (by decide) dX8_orders_10 ?_
    refine x_cvl X hw [iV (-1000000004)] [] (c_M_errsLong l G ad hI σ (-1000000004) hV) (cwV 1 X.2.2.2.2 gX8_orders_X8_errsLong rfl rfl rfl hd_M_errsLong ⟨x_fr hR.1 rfl, x_fr hR.2 rfl⟩) lm0 cX8 rfl hl.1 rfl (Nat.le_of_ble_eq_true rfl) dX8_orders_12 ⟨Nat.zero_le _, Nat.zero_le _⟩ (fun r5 σ4 H locs hV hw => ?_)
    exact hret r5 σ4 H locs ls 15 hV hw dX8_orders_15

theorem n_M_order_0 : Cond.fieldLink RX8 120 "LacePillowModel" "many" "I" ∈ wsX8_order := by decide +kernel
theorem n_M_order_1 : ∀ w ∈ wsX80, w ∈ wsX8_order := by decide +kernel
theorem n_M_order_2 : Cond.constant RX8 249 (-1000000002) ∈ wsX8_order := by decide +kernel
theorem n_M_order_3 : Cond.fieldLink RX8 34 "LacePillowModel" "ahead" "[J" ∈ wsX8_order := by decide +kernel
theorem n_M_order_4 : Cond.constant RX8 171 (-1000000004) ∈ wsX8_order := by decide +kernel
theorem n_M_order_5 : Cond.constant RX8 149 (-1000000001) ∈ wsX8_order := by decide +kernel
set_option maxHeartbeats 4000000 in
set_option maxRecDepth 100000 in
theorem c_M_order (l : Launch) (G : GT) (ad : Nat → Nat) (hI : Inj LM ad) (σ : St) (a1 : Int) (a2 : Int) {Q : Int → St → Prop} (hV : V_M_order σ a1 a2 Q) : Met l yX8_order wsX8_order (rmx 24 599) (Pq vwCl G LM ad σ [.ref (ad 0), lV a1, iV a2]) (Qi vwCl G LM ad Q) 0 0 (Ax LM ad) := by
  unfold V_M_order at hV
  refine x_meti (own := RX8) (by decide) rfl rfl (Nat.le_of_ble_eq_true rfl) hI ?_
  intro p e s m args below meth c R QQ X hR hret ls hl hw
  replace hl : lv_has ls 12 [(0, .ref (ad 0)), (1, lV a1), (3, iV a2)] := hl
  obtain ⟨H, hH⟩ : ∃ z, z = s.heap := ⟨_, rfl⟩
  obtain ⟨locs, hlo⟩ : ∃ z : List Loc, z = [] := ⟨_, rfl⟩
  rw [← hH, ← hlo]
  replace hw : Wx vwCl G LM ad s H locs σ := by rw [hH, hlo]; exact hw
  clear hH hlo
  refine x_iload_n X dX8_order_0 rfl (lv_at hl 2 rfl) ?_
  refine x_i2l X dX8_order_1 ?_
  refine x_lconst X 0 dX8_order_2 rfl ?_
  refine x_aload_n X dX8_order_3 rfl (lv_at hl 0 rfl) ?_
  refine x_geti X hw lm0 cX8 5 (by decide) rfl n_M_order_1 n_M_order_0 dX8_order_4 ?_
  refine x_iconst X dX8_order_7 ?_
  refine x_isub X dX8_order_8 ?_
  refine x_i2l X dX8_order_9 ?_
  refine x_csz X hw [lV (i32 a2), lV 0, lV (i32 ((σ 0 5) - 1))] [] (c_M_in l G ad hI σ (i32 a2) 0 (i32 ((σ 0 5) - 1)) hV) (va_cwS 3 X.2.2.2.2 gX8_order_X8_in rfl rfl rfl hd_M_in ⟨x_fr hR.1 rfl, x_fr hR.2 rfl⟩) rfl hl.1 rfl (Nat.le_of_ble_eq_true rfl) dX8_order_10 ⟨Nat.zero_le _, Nat.zero_le _⟩ (fun r2 σ1 H locs hr2 hV hw => ?_)
  refine x_if_ne X rfl 23 dX8_order_13 (by decide) (fun hc => ?_) (fun hc => ?_)
  · replace hV := hV.1 hc
    refine x_aload_n X dX8_order_23 rfl (lv_at hl 0 rfl) ?_
    refine x_geti X hw lm0 cX8 5 (by decide) rfl n_M_order_1 n_M_order_0 dX8_order_24 ?_
    refine x_bipush X dX8_order_27 (by decide) ?_
    refine x_icmp_le X rfl k32_20 39 dX8_order_29 (by decide) (fun hc => ?_) (fun hc => ?_)
    · replace hV := hV.1 hc
      refine x_aload_n X dX8_order_39 rfl (lv_at hl 0 rfl) ?_
      refine x_cvv X hw [] [] (c_M_forgets l G ad hI σ1 hV) (cwV 0 X.2.2.2.2 gX8_order_X8_forgets rfl rfl rfl hd_M_forgets ⟨x_fr hR.1 rfl, x_fr hR.2 rfl⟩) lm0 cX8 rfl hl.1 rfl (Nat.le_of_ble_eq_true rfl) dX8_order_40 ⟨Nat.zero_le _, Nat.zero_le _⟩ (fun σ3 H locs hV hw => ?_)
      refine x_lload_n X dX8_order_43 rfl (lv_at hl 1 rfl) ?_
      refine x_lconst X 0 dX8_order_44 rfl ?_
      refine x_lcmp_lt X rfl k64_0 59 dX8_order_45 dX8_order_46 (by decide) (fun hc => ?_) (fun hc => ?_)
      · replace hV := hV.1 hc
        refine x_aload_n X dX8_order_59 rfl (lv_at hl 0 rfl) ?_
        refine x_ldc X (-1000000002) n_M_order_2 (by decide) dX8_order_60 ?_
        refine x_cvi X hw [iV (-1000000002)] [] (c_M_errs l G ad hI σ3 (-1000000002) hV) (cwV 1 X.2.2.2.2 gX8_order_X8_errs rfl rfl rfl hd_M_errs ⟨x_fr hR.1 rfl, x_fr hR.2 rfl⟩) lm0 cX8 rfl hl.1 rfl (Nat.le_of_ble_eq_true rfl) dX8_order_62 ⟨Nat.zero_le _, Nat.zero_le _⟩ (fun r5 σ4 H locs hV hw => ?_)
        exact hret r5 σ4 H locs ls 65 hV hw dX8_order_65
      · replace hV := hV.2 hc
        refine x_lload_n X dX8_order_49 rfl (lv_at hl 1 rfl) ?_
        refine x_aload_n X dX8_order_50 rfl (lv_at hl 0 rfl) ?_
        refine x_iconst X dX8_order_51 ?_
        obtain ⟨n, hn, hV⟩ := hV
        refine x_cvl X hw [iV 0] [lV a1] (c_M_ways l G ad hI n σ3 0 hV) (cwV 1 X.2.2.2.2 gX8_order_X8_ways rfl rfl rfl hd_M_ways ⟨by have := hR.1; simp only [rmx]; omega, by have := hR.2; simp only [rmx]; omega⟩) lm0 cX8 rfl hl.1 rfl (Nat.le_of_ble_eq_true rfl) dX8_order_52 ⟨Nat.zero_le _, Nat.zero_le _⟩ (fun r7 σ6 H locs hV hw => ?_)
        refine x_lcmp_lt X rfl rfl 66 dX8_order_55 dX8_order_56 (by decide) (fun hc => ?_) (fun hc => ?_)
        · replace hV := hV.1 hc
          refine x_lload_n X dX8_order_66 rfl (lv_at hl 1 rfl) ?_
          refine x_lstore X [(4, lV a1), (0, .ref (ad 0)), (1, lV a1), (3, iV a2)] dX8_order_67 hl (by decide) rfl (fun ls hl => ?_)
          refine x_iconst X dX8_order_69 ?_
          refine x_istore X [(6, iV 0), (4, lV a1), (0, .ref (ad 0)), (1, lV a1), (3, iV a2)] dX8_order_70 hl (by decide) rfl (fun ls hl => ?_)
          refine x_iconst X dX8_order_72 ?_
          refine x_istore X [(7, iV (-1)), (6, iV 0), (4, lV a1), (0, .ref (ad 0)), (1, lV a1), (3, iV a2)] dX8_order_73 hl (by decide) rfl (fun ls hl => ?_)
          refine x_iconst X dX8_order_75 ?_
          refine x_istore X [(8, iV 0), (7, iV (-1)), (6, iV 0), (4, lV a1), (0, .ref (ad 0)), (1, lV a1), (3, iV a2)] dX8_order_76 hl (by decide) rfl (fun ls hl => ?_)
          refine WL4.use (Gl := fun x8_8 x7_9 x6_10 x4_11 σ12 => ∀ (H : Heap) (locs : List Loc) (ls : Array Slot), Wx vwCl G LM ad s H locs σ12 → lv_has ls 12 [(8, iV x8_8), (7, iV x7_9), (6, iV x6_10), (4, lV x4_11), (0, .ref (ad 0)), (3, iV a2)] → W p l e R s m args below meth c H locs 0 0 QQ (F0 m 78 ls [])) ?_ hV H locs ls hw (lv_sub hl [0, 1, 2, 3, 4, 6] rfl)
          clear hV hw hl H locs ls
          intro bk13 x8_8 x7_9 x6_10 x4_11 σ12 hbk13 hV H locs ls hw hl
          refine x_iload X dX8_order_78 (lv_at hl 0 rfl) ?_
          refine x_iload_n X dX8_order_80 rfl (lv_at hl 5 rfl) ?_
          refine x_icmp_gt X rfl rfl 192 dX8_order_81 (by decide) (fun hc => ?_) (fun hc => ?_)
          · replace hV := hV.1 hc
            refine x_iload X dX8_order_192 (lv_at hl 1 rfl) ?_
            exact hret x7_9 σ12 H locs ls 194 hV hw dX8_order_194
          · replace hV := hV.2 hc
            refine x_iconst X dX8_order_84 ?_
            refine x_istore X [(7, iV (-1)), (8, iV x8_8), (6, iV x6_10), (4, lV x4_11), (0, .ref (ad 0)), (3, iV a2)] dX8_order_85 hl (by decide) rfl (fun ls hl => ?_)
            refine x_iconst X dX8_order_87 ?_
            refine x_istore X [(9, iV 0), (7, iV (-1)), (8, iV x8_8), (6, iV x6_10), (4, lV x4_11), (0, .ref (ad 0)), (3, iV a2)] dX8_order_88 hl (by decide) rfl (fun ls hl => ?_)
            refine WL3.use (Gl := fun x9_14 x7_15 x4_16 σ17 => ∀ (H : Heap) (locs : List Loc) (ls : Array Slot), Wx vwCl G LM ad s H locs σ17 → lv_has ls 12 [(9, iV x9_14), (7, iV x7_15), (8, iV x8_8), (6, iV x6_10), (4, lV x4_16), (0, .ref (ad 0)), (3, iV a2)] → W p l e R s m args below meth c H locs 0 0 QQ (F0 m 90 ls [])) ?_ hV H locs ls hw hl
            clear hV hw hl H locs ls
            intro bk18 x9_14 x7_15 x4_16 σ17 hbk18 hV H locs ls hw hl
            refine x_iload X dX8_order_90 (lv_at hl 0 rfl) ?_
            refine x_if_ne X rfl 177 dX8_order_92 (by decide) (fun hc => ?_) (fun hc => ?_)
            · replace hV := hV.1 hc
              refine x_iload X dX8_order_177 (lv_at hl 3 rfl) ?_
              refine x_iconst X dX8_order_179 ?_
              refine x_iload X dX8_order_180 (lv_at hl 1 rfl) ?_
              refine x_ishl X dX8_order_182 ?_
              refine x_ior X dX8_order_183 ?_
              refine x_bi (fun x6_19 ex6_19 => ?_)
              replace hV := hV x6_19 ex6_19
              clear ex6_19
              refine x_istore X [(6, iV x6_19), (9, iV x9_14), (7, iV x7_15), (8, iV x8_8), (4, lV x4_16), (0, .ref (ad 0)), (3, iV a2)] dX8_order_184 hl (by decide) rfl (fun ls hl => ?_)
              refine x_iinc X (k := 3) (x8_8 + 1) [(8, iV (x8_8 + 1)), (6, iV x6_19), (9, iV x9_14), (7, iV x7_15), (4, lV x4_16), (0, .ref (ad 0)), (3, iV a2)] dX8_order_186 hl rfl rfl (by decide) rfl (fun ls hl => ?_)
              refine x_goto X 78 dX8_order_189 (by decide) ?_
              exact hbk13 (x8_8 + 1) x7_15 x6_19 x4_16 σ17 hV H locs ls hw (lv_sub hl [0, 3, 1, 4, 5, 6] rfl)
            · replace hV := hV.2 hc
              refine x_iinc X (k := 1) (x7_15 + 1) [(7, iV (x7_15 + 1)), (9, iV x9_14), (8, iV x8_8), (6, iV x6_10), (4, lV x4_16), (0, .ref (ad 0)), (3, iV a2)] dX8_order_95 hl rfl rfl (by decide) rfl (fun ls hl => ?_)
              refine x_iload X dX8_order_98 (lv_at hl 3 rfl) ?_
              refine x_iload X dX8_order_100 (lv_at hl 0 rfl) ?_
              refine x_ishr X dX8_order_102 ?_
              refine x_iconst X dX8_order_103 ?_
              refine x_iand X dX8_order_104 ?_
              refine x_iconst X dX8_order_105 ?_
              refine x_icmp_eq X rfl k32_1 90 dX8_order_106 (by decide) (fun hc => ?_) (fun hc => ?_)
              · replace hV := hV.1 hc
                exact hbk18 x9_14 (x7_15 + 1) x4_16 σ17 hV H locs ls hw (lv_sub hl [1, 0, 2, 3, 4, 5, 6] rfl)
              · replace hV := hV.2 hc
                refine x_aload_n X dX8_order_109 rfl (lv_at hl 5 rfl) ?_
                refine x_getr X hw lm0 cX8 10 (by decide) rfl n_M_order_1 n_M_order_3 dX8_order_110 ?_
                refine x_iload X dX8_order_113 (lv_at hl 0 rfl) ?_
                obtain ⟨hi, hV⟩ := hV
                refine x_lald X hw lm9 rfl rfl hi dX8_order_115 ?_
                refine x_iload X dX8_order_116 (lv_at hl 3 rfl) ?_
                refine x_iconst X dX8_order_118 ?_
                refine x_ixor X dX8_order_119 ?_
                refine x_i2l X dX8_order_120 ?_
                refine x_land X dX8_order_121 ?_
                refine x_lconst X 0 dX8_order_122 rfl ?_
                refine x_lcmp_eq X rfl k64_0 130 dX8_order_123 dX8_order_124 (by decide) (fun hc => ?_) (fun hc => ?_)
                · replace hV := hV.1 hc
                  refine x_aload_n X dX8_order_130 rfl (lv_at hl 5 rfl) ?_
                  refine x_iload X dX8_order_131 (lv_at hl 3 rfl) ?_
                  refine x_iconst X dX8_order_133 ?_
                  refine x_iload X dX8_order_134 (lv_at hl 0 rfl) ?_
                  refine x_ishl X dX8_order_136 ?_
                  refine x_ior X dX8_order_137 ?_
                  obtain ⟨n, hn, hV⟩ := hV
                  refine x_cvl X hw [iV (iro x6_10 (ish 1 (x7_15 + 1)))] [] (c_M_ways l G ad hI n σ17 (iro x6_10 (ish 1 (x7_15 + 1))) hV) (cwV 1 X.2.2.2.2 gX8_order_X8_ways rfl rfl rfl hd_M_ways ⟨by have := hR.1; simp only [rmx]; omega, by have := hR.2; simp only [rmx]; omega⟩) lm0 cX8 rfl hl.1 rfl (Nat.le_of_ble_eq_true rfl) dX8_order_138 ⟨Nat.zero_le _, Nat.zero_le _⟩ (fun r21 σ20 H locs hV hw => ?_)
                  refine x_lstore X [(10, lV r21), (7, iV (x7_15 + 1)), (9, iV x9_14), (8, iV x8_8), (6, iV x6_10), (4, lV x4_16), (0, .ref (ad 0)), (3, iV a2)] dX8_order_141 hl (by decide) rfl (fun ls hl => ?_)
                  refine x_lload X dX8_order_143 (lv_at hl 5 rfl) ?_
                  refine x_lload X dX8_order_145 (lv_at hl 0 rfl) ?_
                  have hJ156 : ∀ (y0_22 : Int) (σ23 : St) (H : Heap) (locs : List Loc) (ls : Array Slot), J_M_order_156 x7_15 x4_16 bk18 r21 y0_22 σ23 → Wx vwCl G LM ad s H locs σ23 → lv_has ls 12 [(10, lV r21), (7, iV (x7_15 + 1)), (8, iV x8_8), (6, iV x6_10), (4, lV x4_16), (0, .ref (ad 0)), (3, iV a2)] → W p l e R s m args below meth c H locs 0 0 QQ (F0 m 156 ls [iV y0_22]) := by
                    intro y0_22 σ23 H locs ls hV hw hl
                    unfold J_M_order_156 at hV
                    refine x_istore X [(9, iV y0_22), (10, lV r21), (7, iV (x7_15 + 1)), (8, iV x8_8), (6, iV x6_10), (4, lV x4_16), (0, .ref (ad 0)), (3, iV a2)] dX8_order_156 hl (by decide) rfl (fun ls hl => ?_)
                    refine x_lload X dX8_order_158 (lv_at hl 5 rfl) ?_
                    refine x_iload X dX8_order_160 (lv_at hl 0 rfl) ?_
                    refine x_if_eq X rfl 169 dX8_order_162 (by decide) (fun hc => ?_) (fun hc => ?_)
                    · replace hV := hV.1 hc
                      refine x_lload X dX8_order_169 (lv_at hl 1 rfl) ?_
                      refine x_lsub X dX8_order_171 ?_
                      refine x_bl (fun x4_24 ex4_24 => ?_)
                      replace hV := hV x4_24 ex4_24
                      clear ex4_24
                      refine x_lstore X [(4, lV x4_24), (9, iV y0_22), (10, lV r21), (7, iV (x7_15 + 1)), (8, iV x8_8), (6, iV x6_10), (0, .ref (ad 0)), (3, iV a2)] dX8_order_172 hl (by decide) rfl (fun ls hl => ?_)
                      refine x_goto X 90 dX8_order_174 (by decide) ?_
                      exact hbk18 y0_22 (x7_15 + 1) x4_24 σ23 hV H locs ls hw (lv_sub hl [1, 3, 4, 5, 0, 6, 7] rfl)
                    · replace hV := hV.2 hc
                      refine x_lconst X 0 dX8_order_165 rfl ?_
                      refine x_goto X 171 dX8_order_166 (by decide) ?_
                      refine x_lsub X dX8_order_171 ?_
                      refine x_bl (fun x4_25 ex4_25 => ?_)
                      replace hV := hV x4_25 ex4_25
                      clear ex4_25
                      refine x_lstore X [(4, lV x4_25), (9, iV y0_22), (10, lV r21), (7, iV (x7_15 + 1)), (8, iV x8_8), (6, iV x6_10), (0, .ref (ad 0)), (3, iV a2)] dX8_order_172 hl (by decide) rfl (fun ls hl => ?_)
                      refine x_goto X 90 dX8_order_174 (by decide) ?_
                      exact hbk18 y0_22 (x7_15 + 1) x4_25 σ23 hV H locs ls hw (lv_sub hl [1, 3, 4, 5, 0, 6, 7] rfl)
                  refine x_lcmp_ge X rfl rfl 155 dX8_order_147 dX8_order_148 (by decide) (fun hc => ?_) (fun hc => ?_)
                  · replace hV := hV.1 hc
                    refine x_iconst X dX8_order_155 ?_
                    exact hJ156 0 σ20 H locs ls hV hw (lv_sub hl [0, 1, 3, 4, 5, 6, 7] rfl)
                  · replace hV := hV.2 hc
                    refine x_iconst X dX8_order_151 ?_
                    refine x_goto X 156 dX8_order_152 (by decide) ?_
                    exact hJ156 1 σ20 H locs ls hV hw (lv_sub hl [0, 1, 3, 4, 5, 6, 7] rfl)
                · replace hV := hV.2 hc
                  refine x_goto X 90 dX8_order_127 (by decide) ?_
                  exact hbk18 x9_14 (x7_15 + 1) x4_16 σ17 hV H locs ls hw (lv_sub hl [1, 0, 2, 3, 4, 5, 6] rfl)
        · replace hV := hV.2 hc
          refine x_aload_n X dX8_order_59 rfl (lv_at hl 0 rfl) ?_
          refine x_ldc X (-1000000002) n_M_order_2 (by decide) dX8_order_60 ?_
          refine x_cvi X hw [iV (-1000000002)] [] (c_M_errs l G ad hI σ6 (-1000000002) hV) (cwV 1 X.2.2.2.2 gX8_order_X8_errs rfl rfl rfl hd_M_errs ⟨x_fr hR.1 rfl, x_fr hR.2 rfl⟩) lm0 cX8 rfl hl.1 rfl (Nat.le_of_ble_eq_true rfl) dX8_order_62 ⟨Nat.zero_le _, Nat.zero_le _⟩ (fun r27 σ26 H locs hV hw => ?_)
          exact hret r27 σ26 H locs ls 65 hV hw dX8_order_65
    · replace hV := hV.2 hc
      refine x_aload_n X dX8_order_32 rfl (lv_at hl 0 rfl) ?_
      refine x_ldc X (-1000000004) n_M_order_4 (by decide) dX8_order_33 ?_
      refine x_cvi X hw [iV (-1000000004)] [] (c_M_errs l G ad hI σ1 (-1000000004) hV) (cwV 1 X.2.2.2.2 gX8_order_X8_errs rfl rfl rfl hd_M_errs ⟨x_fr hR.1 rfl, x_fr hR.2 rfl⟩) lm0 cX8 rfl hl.1 rfl (Nat.le_of_ble_eq_true rfl) dX8_order_35 ⟨Nat.zero_le _, Nat.zero_le _⟩ (fun r29 σ28 H locs hV hw => ?_)
      exact hret r29 σ28 H locs ls 38 hV hw dX8_order_38
  · replace hV := hV.2 hc
    refine x_aload_n X dX8_order_16 rfl (lv_at hl 0 rfl) ?_
    refine x_ldc X (-1000000001) n_M_order_5 (by decide) dX8_order_17 ?_
    refine x_cvi X hw [iV (-1000000001)] [] (c_M_errs l G ad hI σ1 (-1000000001) hV) (cwV 1 X.2.2.2.2 gX8_order_X8_errs rfl rfl rfl hd_M_errs ⟨x_fr hR.1 rfl, x_fr hR.2 rfl⟩) lm0 cX8 rfl hl.1 rfl (Nat.le_of_ble_eq_true rfl) dX8_order_19 ⟨Nat.zero_le _, Nat.zero_le _⟩ (fun r31 σ30 H locs hV hw => ?_)
    exact hret r31 σ30 H locs ls 22 hV hw dX8_order_22

theorem n_M_rankOf_0 : Cond.fieldLink RX8 83 "LacePillowModel" "size" "[I" ∈ wsX8_rankOf := by decide +kernel
theorem n_M_rankOf_1 : ∀ w ∈ wsX80, w ∈ wsX8_rankOf := by decide +kernel
theorem n_M_rankOf_2 : Cond.fieldLink RX8 120 "LacePillowModel" "many" "I" ∈ wsX8_rankOf := by decide +kernel
theorem n_M_rankOf_3 : Cond.fieldLink RX8 86 "LacePillowModel" "items" "[J" ∈ wsX8_rankOf := by decide +kernel
theorem n_M_rankOf_4 : Cond.constantLong RX8 139 (-1) ∈ wsX8_rankOf := by decide +kernel
theorem n_M_rankOf_5 : Cond.fieldLink RX8 34 "LacePillowModel" "ahead" "[J" ∈ wsX8_rankOf := by decide +kernel
set_option maxHeartbeats 4000000 in
set_option maxRecDepth 100000 in
theorem c_M_rankOf (l : Launch) (G : GT) (ad : Nat → Nat) (hI : Inj LM ad) (σ : St) (a1 : Int) {Q : Int → St → Prop} (hV : V_M_rankOf σ a1 Q) : Met l yX8_rankOf wsX8_rankOf (rmx 24 599) (Pq vwCl G LM ad σ [.ref (ad 0), iV a1]) (Ql vwCl G LM ad Q) 0 0 (Ax LM ad) := by
  unfold V_M_rankOf at hV
  refine x_metl (own := RX8) (by decide) rfl rfl (Nat.le_of_ble_eq_true rfl) hI ?_
  intro p e s m args below meth c R QQ X hR hret ls hl hw
  replace hl : lv_has ls 9 [(0, .ref (ad 0)), (1, iV a1)] := hl
  obtain ⟨H, hH⟩ : ∃ z, z = s.heap := ⟨_, rfl⟩
  obtain ⟨locs, hlo⟩ : ∃ z : List Loc, z = [] := ⟨_, rfl⟩
  rw [← hH, ← hlo]
  replace hw : Wx vwCl G LM ad s H locs σ := by rw [hH, hlo]; exact hw
  clear hH hlo
  refine x_aload_n X dX8_rankOf_0 rfl (lv_at hl 0 rfl) ?_
  refine x_getr X hw lm0 cX8 30 (by decide) rfl n_M_rankOf_1 n_M_rankOf_0 dX8_rankOf_1 ?_
  refine x_iload_n X dX8_rankOf_4 rfl (lv_at hl 1 rfl) ?_
  obtain ⟨hi, hV⟩ := hV
  refine x_iald X hw lm25 rfl rfl hi dX8_rankOf_5 ?_
  refine x_aload_n X dX8_rankOf_6 rfl (lv_at hl 0 rfl) ?_
  refine x_geti X hw lm0 cX8 5 (by decide) rfl n_M_rankOf_1 n_M_rankOf_2 dX8_rankOf_7 ?_
  refine x_icmp_eq X rfl rfl 17 dX8_rankOf_10 (by decide) (fun hc => ?_) (fun hc => ?_)
  · replace hV := hV.1 hc
    refine x_aload_n X dX8_rankOf_17 rfl (lv_at hl 0 rfl) ?_
    refine x_cvv X hw [] [] (c_M_forgets l G ad hI σ hV) (cwV 0 X.2.2.2.2 gX8_rankOf_X8_forgets rfl rfl rfl hd_M_forgets ⟨x_fr hR.1 rfl, x_fr hR.2 rfl⟩) lm0 cX8 rfl hl.1 rfl (Nat.le_of_ble_eq_true rfl) dX8_rankOf_18 ⟨Nat.zero_le _, Nat.zero_le _⟩ (fun σ1 H locs hV hw => ?_)
    refine x_lconst X 0 dX8_rankOf_21 rfl ?_
    refine x_lstore_n X [(2, lV 0), (0, .ref (ad 0)), (1, iV a1)] dX8_rankOf_22 rfl hl (by decide) rfl (fun ls hl => ?_)
    refine x_iconst X dX8_rankOf_23 ?_
    refine x_istore X [(4, iV 0), (2, lV 0), (0, .ref (ad 0)), (1, iV a1)] dX8_rankOf_24 hl (by decide) rfl (fun ls hl => ?_)
    refine x_iconst X dX8_rankOf_26 ?_
    refine x_istore X [(5, iV 0), (4, iV 0), (2, lV 0), (0, .ref (ad 0)), (1, iV a1)] dX8_rankOf_27 hl (by decide) rfl (fun ls hl => ?_)
    refine WL3.use (Gl := fun x5_2 x4_3 x2_4 σ5 => ∀ (H : Heap) (locs : List Loc) (ls : Array Slot), Wx vwCl G LM ad s H locs σ5 → lv_has ls 9 [(5, iV x5_2), (4, iV x4_3), (2, lV x2_4), (0, .ref (ad 0)), (1, iV a1)] → W p l e R s m args below meth c H locs 0 0 QQ (F0 m 29 ls [])) ?_ hV H locs ls hw hl
    clear hV hw hl H locs ls
    intro bk6 x5_2 x4_3 x2_4 σ5 hbk6 hV H locs ls hw hl
    refine x_iload X dX8_rankOf_29 (lv_at hl 0 rfl) ?_
    refine x_aload_n X dX8_rankOf_31 rfl (lv_at hl 3 rfl) ?_
    refine x_geti X hw lm0 cX8 5 (by decide) rfl n_M_rankOf_1 n_M_rankOf_2 dX8_rankOf_32 ?_
    refine x_icmp_ge X rfl rfl 172 dX8_rankOf_35 (by decide) (fun hc => ?_) (fun hc => ?_)
    · replace hV := hV.1 hc
      refine x_lload_n X dX8_rankOf_172 rfl (lv_at hl 2 rfl) ?_
      exact hret x2_4 σ5 H locs ls 173 hV hw dX8_rankOf_173
    · replace hV := hV.2 hc
      refine x_aload_n X dX8_rankOf_38 rfl (lv_at hl 3 rfl) ?_
      refine x_getr X hw lm0 cX8 31 (by decide) rfl n_M_rankOf_1 n_M_rankOf_3 dX8_rankOf_39 ?_
      refine x_bipush X dX8_rankOf_42 (by decide) ?_
      refine x_iload_n X dX8_rankOf_44 rfl (lv_at hl 4 rfl) ?_
      refine x_imul X dX8_rankOf_45 ?_
      refine x_iload X dX8_rankOf_46 (lv_at hl 0 rfl) ?_
      refine x_iadd X dX8_rankOf_48 ?_
      obtain ⟨hi, hV⟩ := hV
      refine x_lald X hw lm26 rfl rfl hi dX8_rankOf_49 ?_
      refine x_bl (fun x6_7 ex6_7 => ?_)
      replace hV := hV x6_7 ex6_7
      clear ex6_7
      refine x_lstore X [(6, lV x6_7), (5, iV x5_2), (4, iV x4_3), (2, lV x2_4), (0, .ref (ad 0)), (1, iV a1)] dX8_rankOf_50 hl (by decide) rfl (fun ls hl => ?_)
      refine x_aload_n X dX8_rankOf_52 rfl (lv_at hl 4 rfl) ?_
      refine x_lload X dX8_rankOf_53 (lv_at hl 0 rfl) ?_
      refine x_cvz X hw [lV x6_7] [] (c_M_isStitch l G ad hI σ5 x6_7 hV) (cwV 1 X.2.2.2.2 gX8_rankOf_X8_isStitch rfl rfl rfl hd_M_isStitch ⟨x_fr hR.1 rfl, x_fr hR.2 rfl⟩) lm0 cX8 rfl hl.1 rfl (Nat.le_of_ble_eq_true rfl) dX8_rankOf_55 ⟨Nat.zero_le _, Nat.zero_le _⟩ (fun r9 σ8 H locs hr9 hV hw => ?_)
      refine x_if_eq X rfl 92 dX8_rankOf_58 (by decide) (fun hc => ?_) (fun hc => ?_)
      · replace hV := hV.1 hc
        refine x_ldc2 X (-1) n_M_rankOf_4 (by decide) dX8_rankOf_92 ?_
        exact hret (-1) σ8 H locs ls 95 hV hw dX8_rankOf_95
      · replace hV := hV.2 hc
        refine x_iload X dX8_rankOf_61 (lv_at hl 2 rfl) ?_
        refine x_lload X dX8_rankOf_63 (lv_at hl 0 rfl) ?_
        refine x_l2i X dX8_rankOf_65 ?_
        refine x_ishr X dX8_rankOf_66 ?_
        refine x_iconst X dX8_rankOf_67 ?_
        refine x_iand X dX8_rankOf_68 ?_
        refine x_iconst X dX8_rankOf_69 ?_
        refine x_icmp_eq X rfl k32_1 92 dX8_rankOf_70 (by decide) (fun hc => ?_) (fun hc => ?_)
        · replace hV := hV.1 hc
          refine x_ldc2 X (-1) n_M_rankOf_4 (by decide) dX8_rankOf_92 ?_
          exact hret (-1) σ8 H locs ls 95 hV hw dX8_rankOf_95
        · replace hV := hV.2 hc
          refine x_aload_n X dX8_rankOf_73 rfl (lv_at hl 4 rfl) ?_
          refine x_getr X hw lm0 cX8 10 (by decide) rfl n_M_rankOf_1 n_M_rankOf_5 dX8_rankOf_74 ?_
          refine x_lload X dX8_rankOf_77 (lv_at hl 0 rfl) ?_
          refine x_l2i X dX8_rankOf_79 ?_
          obtain ⟨hi, hV⟩ := hV
          refine x_lald X hw lm9 rfl rfl hi dX8_rankOf_80 ?_
          refine x_iload X dX8_rankOf_81 (lv_at hl 2 rfl) ?_
          refine x_iconst X dX8_rankOf_83 ?_
          refine x_ixor X dX8_rankOf_84 ?_
          refine x_i2l X dX8_rankOf_85 ?_
          refine x_land X dX8_rankOf_86 ?_
          refine x_lconst X 0 dX8_rankOf_87 rfl ?_
          refine x_lcmp_eq X rfl k64_0 96 dX8_rankOf_88 dX8_rankOf_89 (by decide) (fun hc => ?_) (fun hc => ?_)
          · replace hV := hV.1 hc
            refine x_iconst X dX8_rankOf_96 ?_
            refine x_istore X [(8, iV 0), (6, lV x6_7), (5, iV x5_2), (4, iV x4_3), (2, lV x2_4), (0, .ref (ad 0)), (1, iV a1)] dX8_rankOf_97 hl (by decide) rfl (fun ls hl => ?_)
            refine WL2.use (Gl := fun x8_10 x2_11 σ12 => ∀ (H : Heap) (locs : List Loc) (ls : Array Slot), Wx vwCl G LM ad s H locs σ12 → lv_has ls 9 [(8, iV x8_10), (6, lV x6_7), (5, iV x5_2), (4, iV x4_3), (2, lV x2_11), (0, .ref (ad 0)), (1, iV a1)] → W p l e R s m args below meth c H locs 0 0 QQ (F0 m 99 ls [])) ?_ hV H locs ls hw hl
            clear hV hw hl H locs ls
            intro bk13 x8_10 x2_11 σ12 hbk13 hV H locs ls hw hl
            refine x_iload X dX8_rankOf_99 (lv_at hl 0 rfl) ?_
            refine x_i2l X dX8_rankOf_101 ?_
            refine x_lload X dX8_rankOf_102 (lv_at hl 1 rfl) ?_
            refine x_lcmp_ge X (i64_i32 _) rfl 156 dX8_rankOf_104 dX8_rankOf_105 (by decide) (fun hc => ?_) (fun hc => ?_)
            · replace hV := hV.1 hc
              refine x_iload X dX8_rankOf_156 (lv_at hl 3 rfl) ?_
              refine x_iconst X dX8_rankOf_158 ?_
              refine x_lload X dX8_rankOf_159 (lv_at hl 1 rfl) ?_
              refine x_l2i X dX8_rankOf_161 ?_
              refine x_ishl X dX8_rankOf_162 ?_
              refine x_ior X dX8_rankOf_163 ?_
              refine x_bi (fun x4_14 ex4_14 => ?_)
              replace hV := hV x4_14 ex4_14
              clear ex4_14
              refine x_istore X [(4, iV x4_14), (8, iV x8_10), (6, lV x6_7), (5, iV x5_2), (2, lV x2_11), (0, .ref (ad 0)), (1, iV a1)] dX8_rankOf_164 hl (by decide) rfl (fun ls hl => ?_)
              refine x_iinc X (k := 3) (x5_2 + 1) [(5, iV (x5_2 + 1)), (4, iV x4_14), (8, iV x8_10), (6, lV x6_7), (2, lV x2_11), (0, .ref (ad 0)), (1, iV a1)] dX8_rankOf_166 hl rfl rfl (by decide) rfl (fun ls hl => ?_)
              refine x_goto X 29 dX8_rankOf_169 (by decide) ?_
              exact hbk6 (x5_2 + 1) x4_14 x2_11 σ12 hV H locs ls hw (lv_sub hl [0, 1, 4, 5, 6] rfl)
            · replace hV := hV.2 hc
              refine x_iload X dX8_rankOf_108 (lv_at hl 3 rfl) ?_
              refine x_iload X dX8_rankOf_110 (lv_at hl 0 rfl) ?_
              refine x_ishr X dX8_rankOf_112 ?_
              refine x_iconst X dX8_rankOf_113 ?_
              refine x_iand X dX8_rankOf_114 ?_
              refine x_if_ne X rfl 150 dX8_rankOf_115 (by decide) (fun hc => ?_) (fun hc => ?_)
              · replace hV := hV.1 hc
                refine x_iinc X (k := 0) (x8_10 + 1) [(8, iV (x8_10 + 1)), (6, lV x6_7), (5, iV x5_2), (4, iV x4_3), (2, lV x2_11), (0, .ref (ad 0)), (1, iV a1)] dX8_rankOf_150 hl rfl rfl (by decide) rfl (fun ls hl => ?_)
                refine x_goto X 99 dX8_rankOf_153 (by decide) ?_
                exact hbk13 (x8_10 + 1) x2_11 σ12 hV H locs ls hw hl
              · replace hV := hV.2 hc
                refine x_aload_n X dX8_rankOf_118 rfl (lv_at hl 5 rfl) ?_
                refine x_getr X hw lm0 cX8 10 (by decide) rfl n_M_rankOf_1 n_M_rankOf_5 dX8_rankOf_119 ?_
                refine x_iload X dX8_rankOf_122 (lv_at hl 0 rfl) ?_
                obtain ⟨hi, hV⟩ := hV
                refine x_lald X hw lm9 rfl rfl hi dX8_rankOf_124 ?_
                refine x_iload X dX8_rankOf_125 (lv_at hl 3 rfl) ?_
                refine x_iconst X dX8_rankOf_127 ?_
                refine x_ixor X dX8_rankOf_128 ?_
                refine x_i2l X dX8_rankOf_129 ?_
                refine x_land X dX8_rankOf_130 ?_
                refine x_lconst X 0 dX8_rankOf_131 rfl ?_
                refine x_lcmp_ne X rfl k64_0 150 dX8_rankOf_132 dX8_rankOf_133 (by decide) (fun hc => ?_) (fun hc => ?_)
                · replace hV := hV.1 hc
                  refine x_iinc X (k := 0) (x8_10 + 1) [(8, iV (x8_10 + 1)), (6, lV x6_7), (5, iV x5_2), (4, iV x4_3), (2, lV x2_11), (0, .ref (ad 0)), (1, iV a1)] dX8_rankOf_150 hl rfl rfl (by decide) rfl (fun ls hl => ?_)
                  refine x_goto X 99 dX8_rankOf_153 (by decide) ?_
                  exact hbk13 (x8_10 + 1) x2_11 σ12 hV H locs ls hw hl
                · replace hV := hV.2 hc
                  refine x_lload_n X dX8_rankOf_136 rfl (lv_at hl 4 rfl) ?_
                  refine x_aload_n X dX8_rankOf_137 rfl (lv_at hl 5 rfl) ?_
                  refine x_iload X dX8_rankOf_138 (lv_at hl 3 rfl) ?_
                  refine x_iconst X dX8_rankOf_140 ?_
                  refine x_iload X dX8_rankOf_141 (lv_at hl 0 rfl) ?_
                  refine x_ishl X dX8_rankOf_143 ?_
                  refine x_ior X dX8_rankOf_144 ?_
                  obtain ⟨n, hn, hV⟩ := hV
                  refine x_cvl X hw [iV (iro x4_3 (ish 1 x8_10))] [lV x2_11] (c_M_ways l G ad hI n σ12 (iro x4_3 (ish 1 x8_10)) hV) (cwV 1 X.2.2.2.2 gX8_rankOf_X8_ways rfl rfl rfl hd_M_ways ⟨by have := hR.1; simp only [rmx]; omega, by have := hR.2; simp only [rmx]; omega⟩) lm0 cX8 rfl hl.1 rfl (Nat.le_of_ble_eq_true rfl) dX8_rankOf_145 ⟨Nat.zero_le _, Nat.zero_le _⟩ (fun r16 σ15 H locs hV hw => ?_)
                  refine x_ladd X dX8_rankOf_148 ?_
                  refine x_bl (fun x2_17 ex2_17 => ?_)
                  replace hV := hV x2_17 ex2_17
                  clear ex2_17
                  refine x_lstore_n X [(2, lV x2_17), (8, iV x8_10), (6, lV x6_7), (5, iV x5_2), (4, iV x4_3), (0, .ref (ad 0)), (1, iV a1)] dX8_rankOf_149 rfl hl (by decide) rfl (fun ls hl => ?_)
                  refine x_iinc X (k := 1) (x8_10 + 1) [(8, iV (x8_10 + 1)), (2, lV x2_17), (6, lV x6_7), (5, iV x5_2), (4, iV x4_3), (0, .ref (ad 0)), (1, iV a1)] dX8_rankOf_150 hl rfl rfl (by decide) rfl (fun ls hl => ?_)
                  refine x_goto X 99 dX8_rankOf_153 (by decide) ?_
                  exact hbk13 (x8_10 + 1) x2_17 σ15 hV H locs ls hw (lv_sub hl [0, 2, 3, 4, 1, 5, 6] rfl)
          · replace hV := hV.2 hc
            refine x_ldc2 X (-1) n_M_rankOf_4 (by decide) dX8_rankOf_92 ?_
            exact hret (-1) σ8 H locs ls 95 hV hw dX8_rankOf_95
  · replace hV := hV.2 hc
    refine x_ldc2 X (-1) n_M_rankOf_4 (by decide) dX8_rankOf_13 ?_
    exact hret (-1) σ H locs ls 16 hV hw dX8_rankOf_16

theorem n_M_isSheet_0 : Cond.constantLong RX8 314 (3) ∈ wsX8_isSheet := by decide +kernel
set_option maxHeartbeats 4000000 in
set_option maxRecDepth 100000 in
theorem c_M_isSheet (l : Launch) (G : GT) (ad : Nat → Nat) (hI : Inj LM ad) (σ : St) (a1 : Int) {Q : Int → St → Prop} (hV : V_M_isSheet σ a1 Q) : Met l yX8_isSheet wsX8_isSheet (rmx 1 25) (Pq vwCl G LM ad σ [iV a1]) (Qz vwCl G LM ad Q) 0 0 (Ax LM ad) := by
  unfold V_M_isSheet at hV
  refine x_metz (own := RX8) (by decide) rfl rfl (Nat.le_of_ble_eq_true rfl) hI ?_
  intro p e s m args below meth c R QQ X hR hret ls hl hw
  replace hl : lv_has ls 1 [(0, iV a1)] := hl
  obtain ⟨H, hH⟩ : ∃ z, z = s.heap := ⟨_, rfl⟩
  obtain ⟨locs, hlo⟩ : ∃ z : List Loc, z = [] := ⟨_, rfl⟩
  rw [← hH, ← hlo]
  replace hw : Wx vwCl G LM ad s H locs σ := by rw [hH, hlo]; exact hw
  clear hH hlo
  refine x_iload_n X dX8_isSheet_0 rfl (lv_at hl 0 rfl) ?_
  refine x_i2l X dX8_isSheet_1 ?_
  refine x_lconst X 0 dX8_isSheet_2 rfl ?_
  refine x_ldc2 X 3 n_M_isSheet_0 (by decide) dX8_isSheet_3 ?_
  refine x_csz X hw [lV (i32 a1), lV 0, lV 3] [] (c_M_in l G ad hI σ (i32 a1) 0 3 hV) (va_cwS 3 X.2.2.2.2 gX8_isSheet_X8_in rfl rfl rfl hd_M_in ⟨x_fr hR.1 rfl, x_fr hR.2 rfl⟩) rfl hl.1 rfl (Nat.le_of_ble_eq_true rfl) dX8_isSheet_6 ⟨Nat.zero_le _, Nat.zero_le _⟩ (fun r2 σ1 H locs hr2 hV hw => ?_)
  exact hret r2 σ1 H locs ls 9 hr2 hV hw dX8_isSheet_9

theorem n_M_rank_0 : Cond.fieldLink RX8 120 "LacePillowModel" "many" "I" ∈ wsX8_rank := by decide +kernel
theorem n_M_rank_1 : ∀ w ∈ wsX80, w ∈ wsX8_rank := by decide +kernel
theorem n_M_rank_2 : Cond.fieldLink RX8 80 "LacePillowModel" "sort" "[I" ∈ wsX8_rank := by decide +kernel
theorem n_M_rank_3 : Cond.constant RX8 165 (-1000000003) ∈ wsX8_rank := by decide +kernel
theorem n_M_rank_4 : Cond.constant RX8 275 (-1000000007) ∈ wsX8_rank := by decide +kernel
theorem n_M_rank_5 : Cond.constant RX8 171 (-1000000004) ∈ wsX8_rank := by decide +kernel
theorem n_M_rank_6 : Cond.constant RX8 149 (-1000000001) ∈ wsX8_rank := by decide +kernel
set_option maxHeartbeats 4000000 in
set_option maxRecDepth 100000 in
theorem c_M_rank (l : Launch) (G : GT) (ad : Nat → Nat) (hI : Inj LM ad) (σ : St) (a1 : Int) {Q : Int → St → Prop} (hV : V_M_rank σ a1 Q) : Met l yX8_rank wsX8_rank (rmx 25 627) (Pq vwCl G LM ad σ [.ref (ad 0), iV a1]) (Ql vwCl G LM ad Q) 0 0 (Ax LM ad) := by
  unfold V_M_rank at hV
  refine x_metl (own := RX8) (by decide) rfl rfl (Nat.le_of_ble_eq_true rfl) hI ?_
  intro p e s m args below meth c R QQ X hR hret ls hl hw
  replace hl : lv_has ls 4 [(0, .ref (ad 0)), (1, iV a1)] := hl
  obtain ⟨H, hH⟩ : ∃ z, z = s.heap := ⟨_, rfl⟩
  obtain ⟨locs, hlo⟩ : ∃ z : List Loc, z = [] := ⟨_, rfl⟩
  rw [← hH, ← hlo]
  replace hw : Wx vwCl G LM ad s H locs σ := by rw [hH, hlo]; exact hw
  clear hH hlo
  refine x_iload_n X dX8_rank_0 rfl (lv_at hl 1 rfl) ?_
  refine x_csz X hw [iV a1] [] (c_M_isSheet l G ad hI σ a1 hV) (va_cwS 1 X.2.2.2.2 gX8_rank_X8_isSheet rfl rfl rfl hd_M_isSheet ⟨x_fr hR.1 rfl, x_fr hR.2 rfl⟩) rfl hl.1 rfl (Nat.le_of_ble_eq_true rfl) dX8_rank_1 ⟨Nat.zero_le _, Nat.zero_le _⟩ (fun r2 σ1 H locs hr2 hV hw => ?_)
  refine x_if_ne X rfl 14 dX8_rank_4 (by decide) (fun hc => ?_) (fun hc => ?_)
  · replace hV := hV.1 hc
    refine x_aload_n X dX8_rank_14 rfl (lv_at hl 0 rfl) ?_
    refine x_geti X hw lm0 cX8 5 (by decide) rfl n_M_rank_1 n_M_rank_0 dX8_rank_15 ?_
    refine x_bipush X dX8_rank_18 (by decide) ?_
    refine x_icmp_le X rfl k32_20 30 dX8_rank_20 (by decide) (fun hc => ?_) (fun hc => ?_)
    · replace hV := hV.1 hc
      refine x_aload_n X dX8_rank_30 rfl (lv_at hl 0 rfl) ?_
      refine x_getr X hw lm0 cX8 29 (by decide) rfl n_M_rank_1 n_M_rank_2 dX8_rank_31 ?_
      refine x_iload_n X dX8_rank_34 rfl (lv_at hl 1 rfl) ?_
      obtain ⟨hi, hV⟩ := hV
      refine x_iald X hw lm24 rfl rfl hi dX8_rank_35 ?_
      refine x_if_ge X rfl 47 dX8_rank_36 (by decide) (fun hc => ?_) (fun hc => ?_)
      · replace hV := hV.1 hc
        refine x_aload_n X dX8_rank_47 rfl (lv_at hl 0 rfl) ?_
        refine x_iload_n X dX8_rank_48 rfl (lv_at hl 1 rfl) ?_
        refine x_cvl X hw [iV a1] [] (c_M_rankOf l G ad hI σ1 a1 hV) (cwV 1 X.2.2.2.2 gX8_rank_X8_rankOf rfl rfl rfl hd_M_rankOf ⟨x_fr hR.1 rfl, x_fr hR.2 rfl⟩) lm0 cX8 rfl hl.1 rfl (Nat.le_of_ble_eq_true rfl) dX8_rank_49 ⟨Nat.zero_le _, Nat.zero_le _⟩ (fun r4 σ3 H locs hV hw => ?_)
        refine x_lstore_n X [(2, lV r4), (0, .ref (ad 0)), (1, iV a1)] dX8_rank_52 rfl hl (by decide) rfl (fun ls hl => ?_)
        refine x_lload_n X dX8_rank_53 rfl (lv_at hl 0 rfl) ?_
        refine x_lconst X 0 dX8_rank_54 rfl ?_
        refine x_lcmp_ge X rfl k64_0 68 dX8_rank_55 dX8_rank_56 (by decide) (fun hc => ?_) (fun hc => ?_)
        · replace hV := hV.1 hc
          refine x_lload_n X dX8_rank_68 rfl (lv_at hl 0 rfl) ?_
          exact hret r4 σ3 H locs ls 69 hV hw dX8_rank_69
        · replace hV := hV.2 hc
          refine x_aload_n X dX8_rank_59 rfl (lv_at hl 1 rfl) ?_
          refine x_ldc X (-1000000003) n_M_rank_3 (by decide) dX8_rank_60 ?_
          refine x_cvl X hw [iV (-1000000003)] [] (c_M_errsLong l G ad hI σ3 (-1000000003) hV) (cwV 1 X.2.2.2.2 gX8_rank_X8_errsLong rfl rfl rfl hd_M_errsLong ⟨x_fr hR.1 rfl, x_fr hR.2 rfl⟩) lm0 cX8 rfl hl.1 rfl (Nat.le_of_ble_eq_true rfl) dX8_rank_62 ⟨Nat.zero_le _, Nat.zero_le _⟩ (fun r6 σ5 H locs hV hw => ?_)
          refine x_goto X 69 dX8_rank_65 (by decide) ?_
          exact hret r6 σ5 H locs ls 69 hV hw dX8_rank_69
      · replace hV := hV.2 hc
        refine x_aload_n X dX8_rank_39 rfl (lv_at hl 0 rfl) ?_
        refine x_ldcw X (-1000000007) n_M_rank_4 (by decide) dX8_rank_40 ?_
        refine x_cvl X hw [iV (-1000000007)] [] (c_M_errsLong l G ad hI σ1 (-1000000007) hV) (cwV 1 X.2.2.2.2 gX8_rank_X8_errsLong rfl rfl rfl hd_M_errsLong ⟨x_fr hR.1 rfl, x_fr hR.2 rfl⟩) lm0 cX8 rfl hl.1 rfl (Nat.le_of_ble_eq_true rfl) dX8_rank_43 ⟨Nat.zero_le _, Nat.zero_le _⟩ (fun r8 σ7 H locs hV hw => ?_)
        exact hret r8 σ7 H locs ls 46 hV hw dX8_rank_46
    · replace hV := hV.2 hc
      refine x_aload_n X dX8_rank_23 rfl (lv_at hl 0 rfl) ?_
      refine x_ldc X (-1000000004) n_M_rank_5 (by decide) dX8_rank_24 ?_
      refine x_cvl X hw [iV (-1000000004)] [] (c_M_errsLong l G ad hI σ1 (-1000000004) hV) (cwV 1 X.2.2.2.2 gX8_rank_X8_errsLong rfl rfl rfl hd_M_errsLong ⟨x_fr hR.1 rfl, x_fr hR.2 rfl⟩) lm0 cX8 rfl hl.1 rfl (Nat.le_of_ble_eq_true rfl) dX8_rank_26 ⟨Nat.zero_le _, Nat.zero_le _⟩ (fun r10 σ9 H locs hV hw => ?_)
      exact hret r10 σ9 H locs ls 29 hV hw dX8_rank_29
  · replace hV := hV.2 hc
    refine x_aload_n X dX8_rank_7 rfl (lv_at hl 0 rfl) ?_
    refine x_ldc X (-1000000001) n_M_rank_6 (by decide) dX8_rank_8 ?_
    refine x_cvl X hw [iV (-1000000001)] [] (c_M_errsLong l G ad hI σ1 (-1000000001) hV) (cwV 1 X.2.2.2.2 gX8_rank_X8_errsLong rfl rfl rfl hd_M_errsLong ⟨x_fr hR.1 rfl, x_fr hR.2 rfl⟩) lm0 cX8 rfl hl.1 rfl (Nat.le_of_ble_eq_true rfl) dX8_rank_10 ⟨Nat.zero_le _, Nat.zero_le _⟩ (fun r12 σ11 H locs hV hw => ?_)
    exact hret r12 σ11 H locs ls 13 hV hw dX8_rank_13

theorem n_M_wrong_0 : Cond.fieldLink RX8 44 "LacePillowModel" "used" "[I" ∈ wsX8_wrong := by decide +kernel
theorem n_M_wrong_1 : ∀ w ∈ wsX80, w ∈ wsX8_wrong := by decide +kernel
theorem n_M_wrong_2 : Cond.fieldLink RX8 9 "LacePillowModel" "now" "[I" ∈ wsX8_wrong := by decide +kernel
theorem n_M_wrong_3 : Cond.constant RX8 282 (-1000000006) ∈ wsX8_wrong := by decide +kernel
theorem n_M_wrong_4 : Cond.constant RX8 165 (-1000000003) ∈ wsX8_wrong := by decide +kernel
theorem n_M_wrong_5 : Cond.constant RX8 149 (-1000000001) ∈ wsX8_wrong := by decide +kernel
set_option maxHeartbeats 4000000 in
set_option maxRecDepth 100000 in
theorem c_M_wrong (l : Launch) (G : GT) (ad : Nat → Nat) (hI : Inj LM ad) (σ : St) (a1 : Int) {Q : Int → St → Prop} (hV : V_M_wrong σ a1 Q) : Met l yX8_wrong wsX8_wrong (rmx 4 94) (Pq vwCl G LM ad σ [.ref (ad 0), lV a1]) (Qi vwCl G LM ad Q) 0 0 (Ax LM ad) := by
  unfold V_M_wrong at hV
  refine x_meti (own := RX8) (by decide) rfl rfl (Nat.le_of_ble_eq_true rfl) hI ?_
  intro p e s m args below meth c R QQ X hR hret ls hl hw
  replace hl : lv_has ls 4 [(0, .ref (ad 0)), (1, lV a1)] := hl
  obtain ⟨H, hH⟩ : ∃ z, z = s.heap := ⟨_, rfl⟩
  obtain ⟨locs, hlo⟩ : ∃ z : List Loc, z = [] := ⟨_, rfl⟩
  rw [← hH, ← hlo]
  replace hw : Wx vwCl G LM ad s H locs σ := by rw [hH, hlo]; exact hw
  clear hH hlo
  refine x_aload_n X dX8_wrong_0 rfl (lv_at hl 0 rfl) ?_
  refine x_lload_n X dX8_wrong_1 rfl (lv_at hl 1 rfl) ?_
  refine x_cvz X hw [lV a1] [] (c_M_isStitch l G ad hI σ a1 hV) (cwV 1 X.2.2.2.2 gX8_wrong_X8_isStitch rfl rfl rfl hd_M_isStitch ⟨x_fr hR.1 rfl, x_fr hR.2 rfl⟩) lm0 cX8 rfl hl.1 rfl (Nat.le_of_ble_eq_true rfl) dX8_wrong_2 ⟨Nat.zero_le _, Nat.zero_le _⟩ (fun r2 σ1 H locs hr2 hV hw => ?_)
  refine x_if_ne X rfl 11 dX8_wrong_5 (by decide) (fun hc => ?_) (fun hc => ?_)
  · replace hV := hV.1 hc
    refine x_aload_n X dX8_wrong_11 rfl (lv_at hl 0 rfl) ?_
    refine x_lload_n X dX8_wrong_12 rfl (lv_at hl 1 rfl) ?_
    refine x_l2i X dX8_wrong_13 ?_
    refine x_cvz X hw [iV a1] [] (c_M_isFree l G ad hI σ1 a1 hV) (cwV 1 X.2.2.2.2 gX8_wrong_X8_isFree rfl rfl rfl hd_M_isFree ⟨x_fr hR.1 rfl, x_fr hR.2 rfl⟩) lm0 cX8 rfl hl.1 rfl (Nat.le_of_ble_eq_true rfl) dX8_wrong_14 ⟨Nat.zero_le _, Nat.zero_le _⟩ (fun r4 σ3 H locs hr4 hV hw => ?_)
    refine x_if_ne X rfl 23 dX8_wrong_17 (by decide) (fun hc => ?_) (fun hc => ?_)
    · replace hV := hV.1 hc
      refine x_aload_n X dX8_wrong_23 rfl (lv_at hl 0 rfl) ?_
      refine x_cvv X hw [] [] (c_M_theWork l G ad hI σ3 hV) (cwV 0 X.2.2.2.2 gX8_wrong_X8_theWork rfl rfl rfl hd_M_theWork ⟨x_fr hR.1 rfl, x_fr hR.2 rfl⟩) lm0 cX8 rfl hl.1 rfl (Nat.le_of_ble_eq_true rfl) dX8_wrong_24 ⟨Nat.zero_le _, Nat.zero_le _⟩ (fun σ5 H locs hV hw => ?_)
      refine x_aload_n X dX8_wrong_27 rfl (lv_at hl 0 rfl) ?_
      refine x_lload_n X dX8_wrong_28 rfl (lv_at hl 1 rfl) ?_
      refine x_l2i X dX8_wrong_29 ?_
      refine x_iconst X dX8_wrong_30 ?_
      refine x_cvv X hw [iV a1, iV 1] [] (c_M_works l G ad hI σ5 a1 1 hV) (cwV 2 X.2.2.2.2 gX8_wrong_X8_works rfl rfl rfl hd_M_works ⟨x_fr hR.1 rfl, x_fr hR.2 rfl⟩) lm0 cX8 rfl hl.1 rfl (Nat.le_of_ble_eq_true rfl) dX8_wrong_31 ⟨Nat.zero_le _, Nat.zero_le _⟩ (fun σ6 H locs hV hw => ?_)
      refine x_iconst X dX8_wrong_34 ?_
      refine x_istore_n X [(3, iV 0), (0, .ref (ad 0)), (1, lV a1)] dX8_wrong_35 rfl hl (by decide) rfl (fun ls hl => ?_)
      refine WL1.use (Gl := fun x3_7 σ8 => ∀ (H : Heap) (locs : List Loc) (ls : Array Slot), Wx vwCl G LM ad s H locs σ8 → lv_has ls 4 [(3, iV x3_7), (0, .ref (ad 0))] → W p l e R s m args below meth c H locs 0 0 QQ (F0 m 36 ls [])) ?_ hV H locs ls hw (lv_sub hl [0, 1] rfl)
      clear hV hw hl H locs ls
      intro bk9 x3_7 σ8 hbk9 hV H locs ls hw hl
      refine x_iload_n X dX8_wrong_36 rfl (lv_at hl 0 rfl) ?_
      refine x_aload_n X dX8_wrong_37 rfl (lv_at hl 1 rfl) ?_
      refine x_cvi X hw [] [iV x3_7] (c_M_threads l G ad hI σ8 hV) (cwV 0 X.2.2.2.2 gX8_wrong_X8_threads rfl rfl rfl hd_M_threads ⟨x_fr hR.1 rfl, x_fr hR.2 rfl⟩) lm0 cX8 rfl hl.1 rfl (Nat.le_of_ble_eq_true rfl) dX8_wrong_38 ⟨Nat.zero_le _, Nat.zero_le _⟩ (fun r11 σ10 H locs hV hw => ?_)
      refine x_icmp_ge X rfl rfl 73 dX8_wrong_41 (by decide) (fun hc => ?_) (fun hc => ?_)
      · replace hV := hV.1 hc
        refine x_iconst X dX8_wrong_73 ?_
        exact hret 0 σ10 H locs ls 74 hV hw dX8_wrong_74
      · replace hV := hV.2 hc
        refine x_aload_n X dX8_wrong_44 rfl (lv_at hl 1 rfl) ?_
        refine x_getr X hw lm0 cX8 14 (by decide) rfl n_M_wrong_1 n_M_wrong_0 dX8_wrong_45 ?_
        refine x_iload_n X dX8_wrong_48 rfl (lv_at hl 0 rfl) ?_
        obtain ⟨hi, hV⟩ := hV
        refine x_iald X hw lm12 rfl rfl hi dX8_wrong_49 ?_
        refine x_aload_n X dX8_wrong_50 rfl (lv_at hl 1 rfl) ?_
        refine x_getr X hw lm0 cX8 0 (by decide) rfl n_M_wrong_1 n_M_wrong_2 dX8_wrong_51 ?_
        refine x_sipush X dX8_wrong_54 (by decide) ?_
        refine x_iload_n X dX8_wrong_57 rfl (lv_at hl 0 rfl) ?_
        refine x_iadd X dX8_wrong_58 ?_
        obtain ⟨hi, hV⟩ := hV
        refine x_iald X hw lm1 rfl rfl hi dX8_wrong_59 ?_
        refine x_icmp_le X rfl rfl 67 dX8_wrong_60 (by decide) (fun hc => ?_) (fun hc => ?_)
        · replace hV := hV.1 hc
          refine x_iinc X (k := 0) (x3_7 + 1) [(3, iV (x3_7 + 1)), (0, .ref (ad 0))] dX8_wrong_67 hl rfl rfl (by decide) rfl (fun ls hl => ?_)
          refine x_goto X 36 dX8_wrong_70 (by decide) ?_
          exact hbk9 (x3_7 + 1) σ10 hV H locs ls hw hl
        · replace hV := hV.2 hc
          refine x_ldcw X (-1000000006) n_M_wrong_3 (by decide) dX8_wrong_63 ?_
          exact hret (-1000000006) σ10 H locs ls 66 hV hw dX8_wrong_66
    · replace hV := hV.2 hc
      refine x_ldc X (-1000000003) n_M_wrong_4 (by decide) dX8_wrong_20 ?_
      exact hret (-1000000003) σ3 H locs ls 22 hV hw dX8_wrong_22
  · replace hV := hV.2 hc
    refine x_ldc X (-1000000001) n_M_wrong_5 (by decide) dX8_wrong_8 ?_
    exact hret (-1000000001) σ1 H locs ls 10 hV hw dX8_wrong_10

theorem n_M_doWork_0 : Cond.fieldLink RX8 9 "LacePillowModel" "now" "[I" ∈ wsX8_doWork := by decide +kernel
theorem n_M_doWork_1 : ∀ w ∈ wsX80, w ∈ wsX8_doWork := by decide +kernel
theorem n_M_doWork_2 : Cond.fieldLink RX8 186 "LacePillowModel" "crossings" "I" ∈ wsX8_doWork := by decide +kernel
theorem n_M_doWork_3 : Cond.fieldLink RX8 59 "LacePillowModel" "by" "[I" ∈ wsX8_doWork := by decide +kernel
set_option maxHeartbeats 4000000 in
set_option maxRecDepth 100000 in
theorem c_M_doWork (l : Launch) (G : GT) (ad : Nat → Nat) (hI : Inj LM ad) (σ : St) (a1 : Int) {Q : Int → St → Prop} (hV : V_M_doWork σ a1 Q) : Met l yX8_doWork wsX8_doWork (rmx 0 0) (Pq vwCl G LM ad σ [.ref (ad 0), iV a1]) (Qi vwCl G LM ad Q) 0 0 (Ax LM ad) := by
  unfold V_M_doWork at hV
  refine x_meti (own := RX8) (by decide) rfl rfl (Nat.le_of_ble_eq_true rfl) hI ?_
  intro p e s m args below meth c R QQ X hR hret ls hl hw
  replace hl : lv_has ls 4 [(0, .ref (ad 0)), (1, iV a1)] := hl
  obtain ⟨H, hH⟩ : ∃ z, z = s.heap := ⟨_, rfl⟩
  obtain ⟨locs, hlo⟩ : ∃ z : List Loc, z = [] := ⟨_, rfl⟩
  rw [← hH, ← hlo]
  replace hw : Wx vwCl G LM ad s H locs σ := by rw [hH, hlo]; exact hw
  clear hH hlo
  refine x_aload_n X dX8_doWork_0 rfl (lv_at hl 0 rfl) ?_
  refine x_getr X hw lm0 cX8 0 (by decide) rfl n_M_doWork_1 n_M_doWork_0 dX8_doWork_1 ?_
  refine x_sipush X dX8_doWork_4 (by decide) ?_
  refine x_aload_n X dX8_doWork_7 rfl (lv_at hl 0 rfl) ?_
  refine x_getr X hw lm0 cX8 0 (by decide) rfl n_M_doWork_1 n_M_doWork_0 dX8_doWork_8 ?_
  refine x_iconst X dX8_doWork_11 ?_
  refine x_iald X hw lm1 k32_1 rfl (show (0 : Int) ≤ 1 ∧ (1 : Int) < 204 by decide) dX8_doWork_12 ?_
  refine x_iadd X dX8_doWork_13 ?_
  refine x_iload_n X dX8_doWork_14 rfl (lv_at hl 1 rfl) ?_
  obtain ⟨hi, hV⟩ := hV
  refine x_iast X hw lm1 rfl rfl hi dX8_doWork_15 (fun H locs σ1 hs hw => ?_)
  replace hV := hV σ1 hs
  refine x_aload_n X dX8_doWork_16 rfl (lv_at hl 0 rfl) ?_
  refine x_getr X hw lm0 cX8 0 (by decide) rfl n_M_doWork_1 n_M_doWork_0 dX8_doWork_17 ?_
  refine x_iconst X dX8_doWork_20 ?_
  refine x_dup2 X dX8_doWork_21 rfl rfl ?_
  refine x_iald X hw lm1 k32_1 rfl (show (0 : Int) ≤ 1 ∧ (1 : Int) < 204 by decide) dX8_doWork_22 ?_
  refine x_iconst X dX8_doWork_23 ?_
  refine x_iadd X dX8_doWork_24 ?_
  refine x_iast X hw lm1 k32_1 rfl (show (0 : Int) ≤ 1 ∧ (1 : Int) < 204 by decide) dX8_doWork_25 (fun H locs σ2 hs hw => ?_)
  replace hV := hV σ2 hs
  refine x_iconst X dX8_doWork_26 ?_
  refine x_istore_n X [(2, iV 0), (0, .ref (ad 0)), (1, iV a1)] dX8_doWork_27 rfl hl (by decide) rfl (fun ls hl => ?_)
  refine x_iconst X dX8_doWork_28 ?_
  refine x_istore_n X [(3, iV 0), (2, iV 0), (0, .ref (ad 0)), (1, iV a1)] dX8_doWork_29 rfl hl (by decide) rfl (fun ls hl => ?_)
  refine WL2.use (Gl := fun x3_3 x2_4 σ5 => ∀ (H : Heap) (locs : List Loc) (ls : Array Slot), Wx vwCl G LM ad s H locs σ5 → lv_has ls 4 [(3, iV x3_3), (2, iV x2_4), (0, .ref (ad 0)), (1, iV a1)] → W p l e R s m args below meth c H locs 0 0 QQ (F0 m 30 ls [])) ?_ hV H locs ls hw hl
  clear hV hw hl H locs ls
  intro bk6 x3_3 x2_4 σ5 hbk6 hV H locs ls hw hl
  refine x_iload_n X dX8_doWork_30 rfl (lv_at hl 0 rfl) ?_
  refine x_aload_n X dX8_doWork_31 rfl (lv_at hl 2 rfl) ?_
  refine x_geti X hw lm0 cX8 15 (by decide) rfl n_M_doWork_1 n_M_doWork_2 dX8_doWork_32 ?_
  refine x_icmp_ge X rfl rfl 62 dX8_doWork_35 (by decide) (fun hc => ?_) (fun hc => ?_)
  · replace hV := hV.1 hc
    refine x_iload_n X dX8_doWork_62 rfl (lv_at hl 1 rfl) ?_
    exact hret x2_4 σ5 H locs ls 63 hV hw dX8_doWork_63
  · replace hV := hV.2 hc
    refine x_iload_n X dX8_doWork_38 rfl (lv_at hl 1 rfl) ?_
    refine x_aload_n X dX8_doWork_39 rfl (lv_at hl 2 rfl) ?_
    refine x_getr X hw lm0 cX8 20 (by decide) rfl n_M_doWork_1 n_M_doWork_3 dX8_doWork_40 ?_
    refine x_iload_n X dX8_doWork_43 rfl (lv_at hl 0 rfl) ?_
    obtain ⟨hi, hV⟩ := hV
    refine x_iald X hw lm17 rfl rfl hi dX8_doWork_44 ?_
    refine x_iload_n X dX8_doWork_45 rfl (lv_at hl 3 rfl) ?_
    refine x_icmp_ne X rfl rfl 53 dX8_doWork_46 (by decide) (fun hc => ?_) (fun hc => ?_)
    · replace hV := hV.1 hc
      refine x_iconst X dX8_doWork_53 ?_
      refine x_iadd X dX8_doWork_54 ?_
      refine x_bi (fun x2_7 ex2_7 => ?_)
      replace hV := hV x2_7 ex2_7
      clear ex2_7
      refine x_istore_n X [(2, iV x2_7), (3, iV x3_3), (0, .ref (ad 0)), (1, iV a1)] dX8_doWork_55 rfl hl (by decide) rfl (fun ls hl => ?_)
      refine x_iinc X (k := 1) (x3_3 + 1) [(3, iV (x3_3 + 1)), (2, iV x2_7), (0, .ref (ad 0)), (1, iV a1)] dX8_doWork_56 hl rfl rfl (by decide) rfl (fun ls hl => ?_)
      refine x_goto X 30 dX8_doWork_59 (by decide) ?_
      exact hbk6 (x3_3 + 1) x2_7 σ5 hV H locs ls hw hl
    · replace hV := hV.2 hc
      refine x_iconst X dX8_doWork_49 ?_
      refine x_goto X 54 dX8_doWork_50 (by decide) ?_
      refine x_iadd X dX8_doWork_54 ?_
      refine x_bi (fun x2_8 ex2_8 => ?_)
      replace hV := hV x2_8 ex2_8
      clear ex2_8
      refine x_istore_n X [(2, iV x2_8), (3, iV x3_3), (0, .ref (ad 0)), (1, iV a1)] dX8_doWork_55 rfl hl (by decide) rfl (fun ls hl => ?_)
      refine x_iinc X (k := 1) (x3_3 + 1) [(3, iV (x3_3 + 1)), (2, iV x2_8), (0, .ref (ad 0)), (1, iV a1)] dX8_doWork_56 hl rfl rfl (by decide) rfl (fun ls hl => ?_)
      refine x_goto X 30 dX8_doWork_59 (by decide) ?_
      exact hbk6 (x3_3 + 1) x2_8 σ5 hV H locs ls hw hl

set_option maxHeartbeats 4000000 in
set_option maxRecDepth 100000 in
theorem c_M_work (l : Launch) (G : GT) (ad : Nat → Nat) (hI : Inj LM ad) (σ : St) (a1 : Int) {Q : Int → St → Prop} (hV : V_M_work σ a1 Q) : Met l yX8_work wsX8_work (rmx 5 117) (Pq vwCl G LM ad σ [.ref (ad 0), iV a1]) (Qi vwCl G LM ad Q) 0 0 (Ax LM ad) := by
  unfold V_M_work at hV
  refine x_meti (own := RX8) (by decide) rfl rfl (Nat.le_of_ble_eq_true rfl) hI ?_
  intro p e s m args below meth c R QQ X hR hret ls hl hw
  replace hl : lv_has ls 3 [(0, .ref (ad 0)), (1, iV a1)] := hl
  obtain ⟨H, hH⟩ : ∃ z, z = s.heap := ⟨_, rfl⟩
  obtain ⟨locs, hlo⟩ : ∃ z : List Loc, z = [] := ⟨_, rfl⟩
  rw [← hH, ← hlo]
  replace hw : Wx vwCl G LM ad s H locs σ := by rw [hH, hlo]; exact hw
  clear hH hlo
  refine x_aload_n X dX8_work_0 rfl (lv_at hl 0 rfl) ?_
  refine x_iload_n X dX8_work_1 rfl (lv_at hl 1 rfl) ?_
  refine x_i2l X dX8_work_2 ?_
  refine x_cvi X hw [lV (i32 a1)] [] (c_M_wrong l G ad hI σ (i32 a1) hV) (cwV 1 X.2.2.2.2 gX8_work_X8_wrong rfl rfl rfl hd_M_wrong ⟨x_fr hR.1 rfl, x_fr hR.2 rfl⟩) lm0 cX8 rfl hl.1 rfl (Nat.le_of_ble_eq_true rfl) dX8_work_3 ⟨Nat.zero_le _, Nat.zero_le _⟩ (fun r2 σ1 H locs hV hw => ?_)
  refine x_istore_n X [(2, iV r2), (0, .ref (ad 0)), (1, iV a1)] dX8_work_6 rfl hl (by decide) rfl (fun ls hl => ?_)
  refine x_iload_n X dX8_work_7 rfl (lv_at hl 0 rfl) ?_
  refine x_if_eq X rfl 19 dX8_work_8 (by decide) (fun hc => ?_) (fun hc => ?_)
  · replace hV := hV.1 hc
    refine x_aload_n X dX8_work_19 rfl (lv_at hl 1 rfl) ?_
    refine x_iload_n X dX8_work_20 rfl (lv_at hl 2 rfl) ?_
    refine x_cvi X hw [iV a1] [] (c_M_doWork l G ad hI σ1 a1 hV) (cwV 1 X.2.2.2.2 gX8_work_X8_doWork rfl rfl rfl hd_M_doWork ⟨x_fr hR.1 rfl, x_fr hR.2 rfl⟩) lm0 cX8 rfl hl.1 rfl (Nat.le_of_ble_eq_true rfl) dX8_work_21 ⟨Nat.zero_le _, Nat.zero_le _⟩ (fun r4 σ3 H locs hV hw => ?_)
    exact hret r4 σ3 H locs ls 24 hV hw dX8_work_24
  · replace hV := hV.2 hc
    refine x_aload_n X dX8_work_11 rfl (lv_at hl 1 rfl) ?_
    refine x_iload_n X dX8_work_12 rfl (lv_at hl 0 rfl) ?_
    refine x_cvi X hw [iV r2] [] (c_M_errs l G ad hI σ1 r2 hV) (cwV 1 X.2.2.2.2 gX8_work_X8_errs rfl rfl rfl hd_M_errs ⟨x_fr hR.1 rfl, x_fr hR.2 rfl⟩) lm0 cX8 rfl hl.1 rfl (Nat.le_of_ble_eq_true rfl) dX8_work_13 ⟨Nat.zero_le _, Nat.zero_le _⟩ (fun r6 σ5 H locs hV hw => ?_)
    refine x_goto X 24 dX8_work_16 (by decide) ?_
    exact hret r6 σ5 H locs ls 24 hV hw dX8_work_24

theorem n_M_works__0 : Cond.fieldLink RX8 80 "LacePillowModel" "sort" "[I" ∈ wsX8_works_ := by decide +kernel
theorem n_M_works__1 : ∀ w ∈ wsX80, w ∈ wsX8_works_ := by decide +kernel
theorem n_M_works__2 : Cond.fieldLink RX8 83 "LacePillowModel" "size" "[I" ∈ wsX8_works_ := by decide +kernel
theorem n_M_works__3 : Cond.fieldLink RX8 86 "LacePillowModel" "items" "[J" ∈ wsX8_works_ := by decide +kernel
theorem n_M_works__4 : Cond.constant RX8 275 (-1000000007) ∈ wsX8_works_ := by decide +kernel
theorem n_M_works__5 : Cond.constant RX8 149 (-1000000001) ∈ wsX8_works_ := by decide +kernel
set_option maxHeartbeats 4000000 in
set_option maxRecDepth 100000 in
theorem c_M_works_ (l : Launch) (G : GT) (ad : Nat → Nat) (hI : Inj LM ad) (σ : St) (a1 : Int) {Q : Int → St → Prop} (hV : V_M_works_ σ a1 Q) : Met l yX8_works_ wsX8_works_ (rmx 5 117) (Pq vwCl G LM ad σ [.ref (ad 0), iV a1]) (Qi vwCl G LM ad Q) 0 0 (Ax LM ad) := by
  unfold V_M_works_ at hV
  refine x_meti (own := RX8) (by decide) rfl rfl (Nat.le_of_ble_eq_true rfl) hI ?_
  intro p e s m args below meth c R QQ X hR hret ls hl hw
  replace hl : lv_has ls 4 [(0, .ref (ad 0)), (1, iV a1)] := hl
  obtain ⟨H, hH⟩ : ∃ z, z = s.heap := ⟨_, rfl⟩
  obtain ⟨locs, hlo⟩ : ∃ z : List Loc, z = [] := ⟨_, rfl⟩
  rw [← hH, ← hlo]
  replace hw : Wx vwCl G LM ad s H locs σ := by rw [hH, hlo]; exact hw
  clear hH hlo
  refine x_iload_n X dX8_works__0 rfl (lv_at hl 1 rfl) ?_
  refine x_csz X hw [iV a1] [] (c_M_isSheet l G ad hI σ a1 hV) (va_cwS 1 X.2.2.2.2 gX8_works__X8_isSheet rfl rfl rfl hd_M_isSheet ⟨x_fr hR.1 rfl, x_fr hR.2 rfl⟩) rfl hl.1 rfl (Nat.le_of_ble_eq_true rfl) dX8_works__1 ⟨Nat.zero_le _, Nat.zero_le _⟩ (fun r2 σ1 H locs hr2 hV hw => ?_)
  refine x_if_ne X rfl 14 dX8_works__4 (by decide) (fun hc => ?_) (fun hc => ?_)
  · replace hV := hV.1 hc
    refine x_aload_n X dX8_works__14 rfl (lv_at hl 0 rfl) ?_
    refine x_getr X hw lm0 cX8 29 (by decide) rfl n_M_works__1 n_M_works__0 dX8_works__15 ?_
    refine x_iload_n X dX8_works__18 rfl (lv_at hl 1 rfl) ?_
    obtain ⟨hi, hV⟩ := hV
    refine x_iald X hw lm24 rfl rfl hi dX8_works__19 ?_
    refine x_if_ge X rfl 31 dX8_works__20 (by decide) (fun hc => ?_) (fun hc => ?_)
    · replace hV := hV.1 hc
      refine x_iconst X dX8_works__31 ?_
      refine x_istore_n X [(2, iV 0), (0, .ref (ad 0)), (1, iV a1)] dX8_works__32 rfl hl (by decide) rfl (fun ls hl => ?_)
      refine WL1.use (Gl := fun x2_3 σ4 => ∀ (H : Heap) (locs : List Loc) (ls : Array Slot), Wx vwCl G LM ad s H locs σ4 → lv_has ls 4 [(2, iV x2_3), (0, .ref (ad 0)), (1, iV a1)] → W p l e R s m args below meth c H locs 0 0 QQ (F0 m 33 ls [])) ?_ hV H locs ls hw hl
      clear hV hw hl H locs ls
      intro bk5 x2_3 σ4 hbk5 hV H locs ls hw hl
      refine x_iload_n X dX8_works__33 rfl (lv_at hl 0 rfl) ?_
      refine x_aload_n X dX8_works__34 rfl (lv_at hl 1 rfl) ?_
      refine x_getr X hw lm0 cX8 30 (by decide) rfl n_M_works__1 n_M_works__2 dX8_works__35 ?_
      refine x_iload_n X dX8_works__38 rfl (lv_at hl 2 rfl) ?_
      obtain ⟨hi, hV⟩ := hV
      refine x_iald X hw lm25 rfl rfl hi dX8_works__39 ?_
      refine x_icmp_ge X rfl rfl 84 dX8_works__40 (by decide) (fun hc => ?_) (fun hc => ?_)
      · replace hV := hV.1 hc
        refine x_iload_n X dX8_works__84 rfl (lv_at hl 0 rfl) ?_
        exact hret x2_3 σ4 H locs ls 85 hV hw dX8_works__85
      · replace hV := hV.2 hc
        refine x_aload_n X dX8_works__43 rfl (lv_at hl 1 rfl) ?_
        refine x_aload_n X dX8_works__44 rfl (lv_at hl 1 rfl) ?_
        refine x_getr X hw lm0 cX8 31 (by decide) rfl n_M_works__1 n_M_works__3 dX8_works__45 ?_
        refine x_bipush X dX8_works__48 (by decide) ?_
        refine x_iload_n X dX8_works__50 rfl (lv_at hl 2 rfl) ?_
        refine x_imul X dX8_works__51 ?_
        refine x_iload_n X dX8_works__52 rfl (lv_at hl 0 rfl) ?_
        refine x_iadd X dX8_works__53 ?_
        obtain ⟨hi, hV⟩ := hV
        refine x_lald X hw lm26 rfl rfl hi dX8_works__54 ?_
        refine x_cvi X hw [lV (σ4 26 (i32 ((60 * a1) + x2_3)))] [] (c_M_wrong l G ad hI σ4 (σ4 26 (i32 ((60 * a1) + x2_3))) hV) (cwV 1 X.2.2.2.2 gX8_works__X8_wrong rfl rfl rfl hd_M_wrong ⟨x_fr hR.1 rfl, x_fr hR.2 rfl⟩) lm0 cX8 rfl hl.1 rfl (Nat.le_of_ble_eq_true rfl) dX8_works__55 ⟨Nat.zero_le _, Nat.zero_le _⟩ (fun r7 σ6 H locs hV hw => ?_)
        refine x_if_ne X rfl 84 dX8_works__58 (by decide) (fun hc => ?_) (fun hc => ?_)
        · replace hV := hV.1 hc
          refine x_iload_n X dX8_works__84 rfl (lv_at hl 0 rfl) ?_
          exact hret x2_3 σ6 H locs ls 85 hV hw dX8_works__85
        · replace hV := hV.2 hc
          refine x_aload_n X dX8_works__61 rfl (lv_at hl 1 rfl) ?_
          refine x_aload_n X dX8_works__62 rfl (lv_at hl 1 rfl) ?_
          refine x_getr X hw lm0 cX8 31 (by decide) rfl n_M_works__1 n_M_works__3 dX8_works__63 ?_
          refine x_bipush X dX8_works__66 (by decide) ?_
          refine x_iload_n X dX8_works__68 rfl (lv_at hl 2 rfl) ?_
          refine x_imul X dX8_works__69 ?_
          refine x_iload_n X dX8_works__70 rfl (lv_at hl 0 rfl) ?_
          refine x_iadd X dX8_works__71 ?_
          obtain ⟨hi, hV⟩ := hV
          refine x_lald X hw lm26 rfl rfl hi dX8_works__72 ?_
          refine x_l2i X dX8_works__73 ?_
          refine x_cvi X hw [iV (σ6 26 (i32 ((60 * a1) + x2_3)))] [] (c_M_doWork l G ad hI σ6 (σ6 26 (i32 ((60 * a1) + x2_3))) hV) (cwV 1 X.2.2.2.2 gX8_works__X8_doWork rfl rfl rfl hd_M_doWork ⟨x_fr hR.1 rfl, x_fr hR.2 rfl⟩) lm0 cX8 rfl hl.1 rfl (Nat.le_of_ble_eq_true rfl) dX8_works__74 ⟨Nat.zero_le _, Nat.zero_le _⟩ (fun r9 σ8 H locs hV hw => ?_)
          refine x_istore_n X [(3, iV r9), (2, iV x2_3), (0, .ref (ad 0)), (1, iV a1)] dX8_works__77 rfl hl (by decide) rfl (fun ls hl => ?_)
          refine x_iinc X (k := 1) (x2_3 + 1) [(2, iV (x2_3 + 1)), (3, iV r9), (0, .ref (ad 0)), (1, iV a1)] dX8_works__78 hl rfl rfl (by decide) rfl (fun ls hl => ?_)
          refine x_goto X 33 dX8_works__81 (by decide) ?_
          exact hbk5 (x2_3 + 1) σ8 hV H locs ls hw (lv_sub hl [0, 2, 3] rfl)
    · replace hV := hV.2 hc
      refine x_aload_n X dX8_works__23 rfl (lv_at hl 0 rfl) ?_
      refine x_ldcw X (-1000000007) n_M_works__4 (by decide) dX8_works__24 ?_
      refine x_cvi X hw [iV (-1000000007)] [] (c_M_errs l G ad hI σ1 (-1000000007) hV) (cwV 1 X.2.2.2.2 gX8_works__X8_errs rfl rfl rfl hd_M_errs ⟨x_fr hR.1 rfl, x_fr hR.2 rfl⟩) lm0 cX8 rfl hl.1 rfl (Nat.le_of_ble_eq_true rfl) dX8_works__27 ⟨Nat.zero_le _, Nat.zero_le _⟩ (fun r11 σ10 H locs hV hw => ?_)
      exact hret r11 σ10 H locs ls 30 hV hw dX8_works__30
  · replace hV := hV.2 hc
    refine x_aload_n X dX8_works__7 rfl (lv_at hl 0 rfl) ?_
    refine x_ldc X (-1000000001) n_M_works__5 (by decide) dX8_works__8 ?_
    refine x_cvi X hw [iV (-1000000001)] [] (c_M_errs l G ad hI σ1 (-1000000001) hV) (cwV 1 X.2.2.2.2 gX8_works__X8_errs rfl rfl rfl hd_M_errs ⟨x_fr hR.1 rfl, x_fr hR.2 rfl⟩) lm0 cX8 rfl hl.1 rfl (Nat.le_of_ble_eq_true rfl) dX8_works__10 ⟨Nat.zero_le _, Nat.zero_le _⟩ (fun r13 σ12 H locs hV hw => ?_)
    exact hret r13 σ12 H locs ls 13 hV hw dX8_works__13

theorem n_M_back_0 : Cond.fieldLink RX8 9 "LacePillowModel" "now" "[I" ∈ wsX8_back := by decide +kernel
theorem n_M_back_1 : ∀ w ∈ wsX80, w ∈ wsX8_back := by decide +kernel
theorem n_M_back_2 : Cond.constant RX8 249 (-1000000002) ∈ wsX8_back := by decide +kernel
set_option maxHeartbeats 4000000 in
set_option maxRecDepth 100000 in
theorem c_M_back (l : Launch) (G : GT) (ad : Nat → Nat) (hI : Inj LM ad) (σ : St) {Q : Int → St → Prop} (hV : V_M_back σ Q) : Met l yX8_back wsX8_back (rmx 1 21) (Pq vwCl G LM ad σ [.ref (ad 0)]) (Qi vwCl G LM ad Q) 0 0 (Ax LM ad) := by
  unfold V_M_back at hV
  refine x_meti (own := RX8) (by decide) rfl rfl (Nat.le_of_ble_eq_true rfl) hI ?_
  intro p e s m args below meth c R QQ X hR hret ls hl hw
  replace hl : lv_has ls 1 [(0, .ref (ad 0))] := hl
  obtain ⟨H, hH⟩ : ∃ z, z = s.heap := ⟨_, rfl⟩
  obtain ⟨locs, hlo⟩ : ∃ z : List Loc, z = [] := ⟨_, rfl⟩
  rw [← hH, ← hlo]
  replace hw : Wx vwCl G LM ad s H locs σ := by rw [hH, hlo]; exact hw
  clear hH hlo
  refine x_aload_n X dX8_back_0 rfl (lv_at hl 0 rfl) ?_
  refine x_getr X hw lm0 cX8 0 (by decide) rfl n_M_back_1 n_M_back_0 dX8_back_1 ?_
  refine x_iconst X dX8_back_4 ?_
  refine x_iald X hw lm1 k32_1 rfl (show (0 : Int) ≤ 1 ∧ (1 : Int) < 204 by decide) dX8_back_5 ?_
  refine x_if_ne X rfl 16 dX8_back_6 (by decide) (fun hc => ?_) (fun hc => ?_)
  · replace hV := hV.1 hc
    refine x_aload_n X dX8_back_16 rfl (lv_at hl 0 rfl) ?_
    refine x_getr X hw lm0 cX8 0 (by decide) rfl n_M_back_1 n_M_back_0 dX8_back_17 ?_
    refine x_iconst X dX8_back_20 ?_
    refine x_dup2 X dX8_back_21 rfl rfl ?_
    refine x_iald X hw lm1 k32_1 rfl (show (0 : Int) ≤ 1 ∧ (1 : Int) < 204 by decide) dX8_back_22 ?_
    refine x_iconst X dX8_back_23 ?_
    refine x_isub X dX8_back_24 ?_
    refine x_iast X hw lm1 k32_1 rfl (show (0 : Int) ≤ 1 ∧ (1 : Int) < 204 by decide) dX8_back_25 (fun H locs σ1 hs hw => ?_)
    replace hV := hV σ1 hs
    refine x_aload_n X dX8_back_26 rfl (lv_at hl 0 rfl) ?_
    refine x_getr X hw lm0 cX8 0 (by decide) rfl n_M_back_1 n_M_back_0 dX8_back_27 ?_
    refine x_sipush X dX8_back_30 (by decide) ?_
    refine x_aload_n X dX8_back_33 rfl (lv_at hl 0 rfl) ?_
    refine x_getr X hw lm0 cX8 0 (by decide) rfl n_M_back_1 n_M_back_0 dX8_back_34 ?_
    refine x_iconst X dX8_back_37 ?_
    refine x_iald X hw lm1 k32_1 rfl (show (0 : Int) ≤ 1 ∧ (1 : Int) < 204 by decide) dX8_back_38 ?_
    refine x_iadd X dX8_back_39 ?_
    obtain ⟨hi, hV⟩ := hV
    refine x_iald X hw lm1 rfl rfl hi dX8_back_40 ?_
    exact hret (σ1 1 (i32 (156 + (σ1 1 1)))) σ1 H locs ls 41 hV hw dX8_back_41
  · replace hV := hV.2 hc
    refine x_aload_n X dX8_back_9 rfl (lv_at hl 0 rfl) ?_
    refine x_ldc X (-1000000002) n_M_back_2 (by decide) dX8_back_10 ?_
    refine x_cvi X hw [iV (-1000000002)] [] (c_M_errs l G ad hI σ (-1000000002) hV) (cwV 1 X.2.2.2.2 gX8_back_X8_errs rfl rfl rfl hd_M_errs ⟨x_fr hR.1 rfl, x_fr hR.2 rfl⟩) lm0 cX8 rfl hl.1 rfl (Nat.le_of_ble_eq_true rfl) dX8_back_12 ⟨Nat.zero_le _, Nat.zero_le _⟩ (fun r3 σ2 H locs hV hw => ?_)
    exact hret r3 σ2 H locs ls 15 hV hw dX8_back_15

theorem n_M_worked_0 : Cond.fieldLink RX8 9 "LacePillowModel" "now" "[I" ∈ wsX8_worked := by decide +kernel
theorem n_M_worked_1 : ∀ w ∈ wsX80, w ∈ wsX8_worked := by decide +kernel
theorem n_M_worked_2 : Cond.constant RX8 149 (-1000000001) ∈ wsX8_worked := by decide +kernel
set_option maxHeartbeats 4000000 in
set_option maxRecDepth 100000 in
theorem c_M_worked (l : Launch) (G : GT) (ad : Nat → Nat) (hI : Inj LM ad) (σ : St) (a1 : Int) {Q : Int → St → Prop} (hV : V_M_worked σ a1 Q) : Met l yX8_worked wsX8_worked (rmx 1 25) (Pq vwCl G LM ad σ [.ref (ad 0), iV a1]) (Qi vwCl G LM ad Q) 0 0 (Ax LM ad) := by
  unfold V_M_worked at hV
  refine x_meti (own := RX8) (by decide) rfl rfl (Nat.le_of_ble_eq_true rfl) hI ?_
  intro p e s m args below meth c R QQ X hR hret ls hl hw
  replace hl : lv_has ls 2 [(0, .ref (ad 0)), (1, iV a1)] := hl
  obtain ⟨H, hH⟩ : ∃ z, z = s.heap := ⟨_, rfl⟩
  obtain ⟨locs, hlo⟩ : ∃ z : List Loc, z = [] := ⟨_, rfl⟩
  rw [← hH, ← hlo]
  replace hw : Wx vwCl G LM ad s H locs σ := by rw [hH, hlo]; exact hw
  clear hH hlo
  refine x_iload_n X dX8_worked_0 rfl (lv_at hl 1 rfl) ?_
  refine x_i2l X dX8_worked_1 ?_
  refine x_lconst X 0 dX8_worked_2 rfl ?_
  refine x_aload_n X dX8_worked_3 rfl (lv_at hl 0 rfl) ?_
  refine x_getr X hw lm0 cX8 0 (by decide) rfl n_M_worked_1 n_M_worked_0 dX8_worked_4 ?_
  refine x_iconst X dX8_worked_7 ?_
  refine x_iald X hw lm1 k32_1 rfl (show (0 : Int) ≤ 1 ∧ (1 : Int) < 204 by decide) dX8_worked_8 ?_
  refine x_iconst X dX8_worked_9 ?_
  refine x_isub X dX8_worked_10 ?_
  refine x_i2l X dX8_worked_11 ?_
  refine x_csz X hw [lV (i32 a1), lV 0, lV (i32 ((σ 1 1) - 1))] [] (c_M_in l G ad hI σ (i32 a1) 0 (i32 ((σ 1 1) - 1)) hV) (va_cwS 3 X.2.2.2.2 gX8_worked_X8_in rfl rfl rfl hd_M_in ⟨x_fr hR.1 rfl, x_fr hR.2 rfl⟩) rfl hl.1 rfl (Nat.le_of_ble_eq_true rfl) dX8_worked_12 ⟨Nat.zero_le _, Nat.zero_le _⟩ (fun r2 σ1 H locs hr2 hV hw => ?_)
  refine x_if_eq X rfl 31 dX8_worked_15 (by decide) (fun hc => ?_) (fun hc => ?_)
  · replace hV := hV.1 hc
    refine x_aload_n X dX8_worked_31 rfl (lv_at hl 0 rfl) ?_
    refine x_ldc X (-1000000001) n_M_worked_2 (by decide) dX8_worked_32 ?_
    refine x_cvi X hw [iV (-1000000001)] [] (c_M_errs l G ad hI σ1 (-1000000001) hV) (cwV 1 X.2.2.2.2 gX8_worked_X8_errs rfl rfl rfl hd_M_errs ⟨x_fr hR.1 rfl, x_fr hR.2 rfl⟩) lm0 cX8 rfl hl.1 rfl (Nat.le_of_ble_eq_true rfl) dX8_worked_34 ⟨Nat.zero_le _, Nat.zero_le _⟩ (fun r4 σ3 H locs hV hw => ?_)
    exact hret r4 σ3 H locs ls 37 hV hw dX8_worked_37
  · replace hV := hV.2 hc
    refine x_aload_n X dX8_worked_18 rfl (lv_at hl 0 rfl) ?_
    refine x_getr X hw lm0 cX8 0 (by decide) rfl n_M_worked_1 n_M_worked_0 dX8_worked_19 ?_
    refine x_sipush X dX8_worked_22 (by decide) ?_
    refine x_iload_n X dX8_worked_25 rfl (lv_at hl 1 rfl) ?_
    refine x_iadd X dX8_worked_26 ?_
    obtain ⟨hi, hV⟩ := hV
    refine x_iald X hw lm1 rfl rfl hi dX8_worked_27 ?_
    refine x_goto X 37 dX8_worked_28 (by decide) ?_
    exact hret (σ1 1 (i32 (156 + a1))) σ1 H locs ls 37 hV hw dX8_worked_37

theorem n_M_at_0 : Cond.fieldLink RX8 41 "LacePillowModel" "at" "[I" ∈ wsX8_at := by decide +kernel
theorem n_M_at_1 : ∀ w ∈ wsX80, w ∈ wsX8_at := by decide +kernel
theorem n_M_at_2 : Cond.constant RX8 149 (-1000000001) ∈ wsX8_at := by decide +kernel
set_option maxHeartbeats 4000000 in
set_option maxRecDepth 100000 in
theorem c_M_at (l : Launch) (G : GT) (ad : Nat → Nat) (hI : Inj LM ad) (σ : St) (a1 : Int) {Q : Int → St → Prop} (hV : V_M_at σ a1 Q) : Met l yX8_at wsX8_at (rmx 4 94) (Pq vwCl G LM ad σ [.ref (ad 0), iV a1]) (Qi vwCl G LM ad Q) 0 0 (Ax LM ad) := by
  unfold V_M_at at hV
  refine x_meti (own := RX8) (by decide) rfl rfl (Nat.le_of_ble_eq_true rfl) hI ?_
  intro p e s m args below meth c R QQ X hR hret ls hl hw
  replace hl : lv_has ls 2 [(0, .ref (ad 0)), (1, iV a1)] := hl
  obtain ⟨H, hH⟩ : ∃ z, z = s.heap := ⟨_, rfl⟩
  obtain ⟨locs, hlo⟩ : ∃ z : List Loc, z = [] := ⟨_, rfl⟩
  rw [← hH, ← hlo]
  replace hw : Wx vwCl G LM ad s H locs σ := by rw [hH, hlo]; exact hw
  clear hH hlo
  refine x_iload_n X dX8_at_0 rfl (lv_at hl 1 rfl) ?_
  refine x_i2l X dX8_at_1 ?_
  refine x_lconst X 0 dX8_at_2 rfl ?_
  refine x_aload_n X dX8_at_3 rfl (lv_at hl 0 rfl) ?_
  refine x_cvi X hw [] [lV 0, lV (i32 a1)] (c_M_threads l G ad hI σ hV) (cwV 0 X.2.2.2.2 gX8_at_X8_threads rfl rfl rfl hd_M_threads ⟨x_fr hR.1 rfl, x_fr hR.2 rfl⟩) lm0 cX8 rfl hl.1 rfl (Nat.le_of_ble_eq_true rfl) dX8_at_4 ⟨Nat.zero_le _, Nat.zero_le _⟩ (fun r2 σ1 H locs hV hw => ?_)
  refine x_iconst X dX8_at_7 ?_
  refine x_isub X dX8_at_8 ?_
  refine x_i2l X dX8_at_9 ?_
  refine x_csz X hw [lV (i32 a1), lV 0, lV (i32 (r2 - 1))] [] (c_M_in l G ad hI σ1 (i32 a1) 0 (i32 (r2 - 1)) hV) (va_cwS 3 X.2.2.2.2 gX8_at_X8_in rfl rfl rfl hd_M_in ⟨x_fr hR.1 rfl, x_fr hR.2 rfl⟩) rfl hl.1 rfl (Nat.le_of_ble_eq_true rfl) dX8_at_10 ⟨Nat.zero_le _, Nat.zero_le _⟩ (fun r4 σ3 H locs hr4 hV hw => ?_)
  refine x_if_ne X rfl 23 dX8_at_13 (by decide) (fun hc => ?_) (fun hc => ?_)
  · replace hV := hV.1 hc
    refine x_aload_n X dX8_at_23 rfl (lv_at hl 0 rfl) ?_
    refine x_cvv X hw [] [] (c_M_theWork l G ad hI σ3 hV) (cwV 0 X.2.2.2.2 gX8_at_X8_theWork rfl rfl rfl hd_M_theWork ⟨x_fr hR.1 rfl, x_fr hR.2 rfl⟩) lm0 cX8 rfl hl.1 rfl (Nat.le_of_ble_eq_true rfl) dX8_at_24 ⟨Nat.zero_le _, Nat.zero_le _⟩ (fun σ5 H locs hV hw => ?_)
    refine x_aload_n X dX8_at_27 rfl (lv_at hl 0 rfl) ?_
    refine x_getr X hw lm0 cX8 13 (by decide) rfl n_M_at_1 n_M_at_0 dX8_at_28 ?_
    refine x_iload_n X dX8_at_31 rfl (lv_at hl 1 rfl) ?_
    obtain ⟨hi, hV⟩ := hV
    refine x_iald X hw lm11 rfl rfl hi dX8_at_32 ?_
    exact hret (σ5 11 (i32 a1)) σ5 H locs ls 33 hV hw dX8_at_33
  · replace hV := hV.2 hc
    refine x_aload_n X dX8_at_16 rfl (lv_at hl 0 rfl) ?_
    refine x_ldc X (-1000000001) n_M_at_2 (by decide) dX8_at_17 ?_
    refine x_cvi X hw [iV (-1000000001)] [] (c_M_errs l G ad hI σ3 (-1000000001) hV) (cwV 1 X.2.2.2.2 gX8_at_X8_errs rfl rfl rfl hd_M_errs ⟨x_fr hR.1 rfl, x_fr hR.2 rfl⟩) lm0 cX8 rfl hl.1 rfl (Nat.le_of_ble_eq_true rfl) dX8_at_19 ⟨Nat.zero_le _, Nat.zero_le _⟩ (fun r7 σ6 H locs hV hw => ?_)
    exact hret r7 σ6 H locs ls 22 hV hw dX8_at_22

set_option maxHeartbeats 4000000 in
set_option maxRecDepth 100000 in
theorem c_M_isThread (l : Launch) (G : GT) (ad : Nat → Nat) (hI : Inj LM ad) (σ : St) (a1 : Int) {Q : Int → St → Prop} (hV : V_M_isThread σ a1 Q) : Met l yX8_isThread wsX8_isThread (rmx 1 25) (Pq vwCl G LM ad σ [.ref (ad 0), iV a1]) (Qz vwCl G LM ad Q) 0 0 (Ax LM ad) := by
  unfold V_M_isThread at hV
  refine x_metz (own := RX8) (by decide) rfl rfl (Nat.le_of_ble_eq_true rfl) hI ?_
  intro p e s m args below meth c R QQ X hR hret ls hl hw
  replace hl : lv_has ls 2 [(0, .ref (ad 0)), (1, iV a1)] := hl
  obtain ⟨H, hH⟩ : ∃ z, z = s.heap := ⟨_, rfl⟩
  obtain ⟨locs, hlo⟩ : ∃ z : List Loc, z = [] := ⟨_, rfl⟩
  rw [← hH, ← hlo]
  replace hw : Wx vwCl G LM ad s H locs σ := by rw [hH, hlo]; exact hw
  clear hH hlo
  refine x_iload_n X dX8_isThread_0 rfl (lv_at hl 1 rfl) ?_
  refine x_i2l X dX8_isThread_1 ?_
  refine x_lconst X 0 dX8_isThread_2 rfl ?_
  refine x_aload_n X dX8_isThread_3 rfl (lv_at hl 0 rfl) ?_
  refine x_cvi X hw [] [lV 0, lV (i32 a1)] (c_M_threads l G ad hI σ hV) (cwV 0 X.2.2.2.2 gX8_isThread_X8_threads rfl rfl rfl hd_M_threads ⟨x_fr hR.1 rfl, x_fr hR.2 rfl⟩) lm0 cX8 rfl hl.1 rfl (Nat.le_of_ble_eq_true rfl) dX8_isThread_4 ⟨Nat.zero_le _, Nat.zero_le _⟩ (fun r2 σ1 H locs hV hw => ?_)
  refine x_iconst X dX8_isThread_7 ?_
  refine x_isub X dX8_isThread_8 ?_
  refine x_i2l X dX8_isThread_9 ?_
  refine x_csz X hw [lV (i32 a1), lV 0, lV (i32 (r2 - 1))] [] (c_M_in l G ad hI σ1 (i32 a1) 0 (i32 (r2 - 1)) hV) (va_cwS 3 X.2.2.2.2 gX8_isThread_X8_in rfl rfl rfl hd_M_in ⟨x_fr hR.1 rfl, x_fr hR.2 rfl⟩) rfl hl.1 rfl (Nat.le_of_ble_eq_true rfl) dX8_isThread_10 ⟨Nat.zero_le _, Nat.zero_le _⟩ (fun r4 σ3 H locs hr4 hV hw => ?_)
  exact hret r4 σ3 H locs ls 13 hr4 hV hw dX8_isThread_13

theorem n_M_wind_0 : Cond.constant RX8 149 (-1000000001) ∈ wsX8_wind := by decide +kernel
theorem n_M_wind_1 : Cond.constantLong RX8 292 (9999) ∈ wsX8_wind := by decide +kernel
theorem n_M_wind_2 : Cond.fieldLink RX8 44 "LacePillowModel" "used" "[I" ∈ wsX8_wind := by decide +kernel
theorem n_M_wind_3 : ∀ w ∈ wsX80, w ∈ wsX8_wind := by decide +kernel
theorem n_M_wind_4 : Cond.fieldLink RX8 9 "LacePillowModel" "now" "[I" ∈ wsX8_wind := by decide +kernel
theorem n_M_wind_5 : Cond.constant RX8 165 (-1000000003) ∈ wsX8_wind := by decide +kernel
set_option maxHeartbeats 4000000 in
set_option maxRecDepth 100000 in
theorem c_M_wind (l : Launch) (G : GT) (ad : Nat → Nat) (hI : Inj LM ad) (σ : St) (a1 : Int) (a2 : Int) {Q : Int → St → Prop} (hV : V_M_wind σ a1 a2 Q) : Met l yX8_wind wsX8_wind (rmx 4 94) (Pq vwCl G LM ad σ [.ref (ad 0), iV a1, iV a2]) (Qi vwCl G LM ad Q) 0 0 (Ax LM ad) := by
  unfold V_M_wind at hV
  refine x_meti (own := RX8) (by decide) rfl rfl (Nat.le_of_ble_eq_true rfl) hI ?_
  intro p e s m args below meth c R QQ X hR hret ls hl hw
  replace hl : lv_has ls 4 [(0, .ref (ad 0)), (1, iV a1), (2, iV a2)] := hl
  obtain ⟨H, hH⟩ : ∃ z, z = s.heap := ⟨_, rfl⟩
  obtain ⟨locs, hlo⟩ : ∃ z : List Loc, z = [] := ⟨_, rfl⟩
  rw [← hH, ← hlo]
  replace hw : Wx vwCl G LM ad s H locs σ := by rw [hH, hlo]; exact hw
  clear hH hlo
  refine x_aload_n X dX8_wind_0 rfl (lv_at hl 0 rfl) ?_
  refine x_iload_n X dX8_wind_1 rfl (lv_at hl 1 rfl) ?_
  refine x_cvz X hw [iV a1] [] (c_M_isThread l G ad hI σ a1 hV) (cwV 1 X.2.2.2.2 gX8_wind_X8_isThread rfl rfl rfl hd_M_isThread ⟨x_fr hR.1 rfl, x_fr hR.2 rfl⟩) lm0 cX8 rfl hl.1 rfl (Nat.le_of_ble_eq_true rfl) dX8_wind_2 ⟨Nat.zero_le _, Nat.zero_le _⟩ (fun r2 σ1 H locs hr2 hV hw => ?_)
  refine x_if_eq X rfl 20 dX8_wind_5 (by decide) (fun hc => ?_) (fun hc => ?_)
  · replace hV := hV.1 hc
    refine x_aload_n X dX8_wind_20 rfl (lv_at hl 0 rfl) ?_
    refine x_ldc X (-1000000001) n_M_wind_0 (by decide) dX8_wind_21 ?_
    refine x_cvi X hw [iV (-1000000001)] [] (c_M_errs l G ad hI σ1 (-1000000001) hV) (cwV 1 X.2.2.2.2 gX8_wind_X8_errs rfl rfl rfl hd_M_errs ⟨x_fr hR.1 rfl, x_fr hR.2 rfl⟩) lm0 cX8 rfl hl.1 rfl (Nat.le_of_ble_eq_true rfl) dX8_wind_23 ⟨Nat.zero_le _, Nat.zero_le _⟩ (fun r4 σ3 H locs hV hw => ?_)
    exact hret r4 σ3 H locs ls 26 hV hw dX8_wind_26
  · replace hV := hV.2 hc
    refine x_iload_n X dX8_wind_8 rfl (lv_at hl 2 rfl) ?_
    refine x_i2l X dX8_wind_9 ?_
    refine x_lconst X 0 dX8_wind_10 rfl ?_
    refine x_ldc2 X 9999 n_M_wind_1 (by decide) dX8_wind_11 ?_
    refine x_csz X hw [lV (i32 a2), lV 0, lV 9999] [] (c_M_in l G ad hI σ1 (i32 a2) 0 9999 hV) (va_cwS 3 X.2.2.2.2 gX8_wind_X8_in rfl rfl rfl hd_M_in ⟨x_fr hR.1 rfl, x_fr hR.2 rfl⟩) rfl hl.1 rfl (Nat.le_of_ble_eq_true rfl) dX8_wind_14 ⟨Nat.zero_le _, Nat.zero_le _⟩ (fun r6 σ5 H locs hr6 hV hw => ?_)
    refine x_if_ne X rfl 27 dX8_wind_17 (by decide) (fun hc => ?_) (fun hc => ?_)
    · replace hV := hV.1 hc
      refine x_aload_n X dX8_wind_27 rfl (lv_at hl 0 rfl) ?_
      refine x_cvv X hw [] [] (c_M_theWork l G ad hI σ5 hV) (cwV 0 X.2.2.2.2 gX8_wind_X8_theWork rfl rfl rfl hd_M_theWork ⟨x_fr hR.1 rfl, x_fr hR.2 rfl⟩) lm0 cX8 rfl hl.1 rfl (Nat.le_of_ble_eq_true rfl) dX8_wind_28 ⟨Nat.zero_le _, Nat.zero_le _⟩ (fun σ7 H locs hV hw => ?_)
      refine x_aload_n X dX8_wind_31 rfl (lv_at hl 0 rfl) ?_
      refine x_getr X hw lm0 cX8 14 (by decide) rfl n_M_wind_3 n_M_wind_2 dX8_wind_32 ?_
      refine x_iload_n X dX8_wind_35 rfl (lv_at hl 1 rfl) ?_
      obtain ⟨hi, hV⟩ := hV
      refine x_iald X hw lm12 rfl rfl hi dX8_wind_36 ?_
      refine x_iload_n X dX8_wind_37 rfl (lv_at hl 2 rfl) ?_
      refine x_icmp_le X rfl rfl 48 dX8_wind_38 (by decide) (fun hc => ?_) (fun hc => ?_)
      · replace hV := hV.1 hc
        refine x_aload_n X dX8_wind_48 rfl (lv_at hl 0 rfl) ?_
        refine x_getr X hw lm0 cX8 0 (by decide) rfl n_M_wind_3 n_M_wind_4 dX8_wind_49 ?_
        refine x_sipush X dX8_wind_52 (by decide) ?_
        refine x_iload_n X dX8_wind_55 rfl (lv_at hl 1 rfl) ?_
        refine x_iadd X dX8_wind_56 ?_
        obtain ⟨hi, hV⟩ := hV
        refine x_iald X hw lm1 rfl rfl hi dX8_wind_57 ?_
        refine x_bi (fun x3_8 ex3_8 => ?_)
        replace hV := hV x3_8 ex3_8
        clear ex3_8
        refine x_istore_n X [(3, iV x3_8), (0, .ref (ad 0)), (1, iV a1), (2, iV a2)] dX8_wind_58 rfl hl (by decide) rfl (fun ls hl => ?_)
        refine x_aload_n X dX8_wind_59 rfl (lv_at hl 1 rfl) ?_
        refine x_getr X hw lm0 cX8 0 (by decide) rfl n_M_wind_3 n_M_wind_4 dX8_wind_60 ?_
        refine x_sipush X dX8_wind_63 (by decide) ?_
        refine x_iload_n X dX8_wind_66 rfl (lv_at hl 2 rfl) ?_
        refine x_iadd X dX8_wind_67 ?_
        refine x_iload_n X dX8_wind_68 rfl (lv_at hl 3 rfl) ?_
        obtain ⟨hi, hV⟩ := hV
        refine x_iast X hw lm1 rfl rfl hi dX8_wind_69 (fun H locs σ9 hs hw => ?_)
        replace hV := hV σ9 hs
        refine x_iload_n X dX8_wind_70 rfl (lv_at hl 0 rfl) ?_
        exact hret x3_8 σ9 H locs ls 71 hV hw dX8_wind_71
      · replace hV := hV.2 hc
        refine x_aload_n X dX8_wind_41 rfl (lv_at hl 0 rfl) ?_
        refine x_ldc X (-1000000003) n_M_wind_5 (by decide) dX8_wind_42 ?_
        refine x_cvi X hw [iV (-1000000003)] [] (c_M_errs l G ad hI σ7 (-1000000003) hV) (cwV 1 X.2.2.2.2 gX8_wind_X8_errs rfl rfl rfl hd_M_errs ⟨x_fr hR.1 rfl, x_fr hR.2 rfl⟩) lm0 cX8 rfl hl.1 rfl (Nat.le_of_ble_eq_true rfl) dX8_wind_44 ⟨Nat.zero_le _, Nat.zero_le _⟩ (fun r11 σ10 H locs hV hw => ?_)
        exact hret r11 σ10 H locs ls 47 hV hw dX8_wind_47
    · replace hV := hV.2 hc
      refine x_aload_n X dX8_wind_20 rfl (lv_at hl 0 rfl) ?_
      refine x_ldc X (-1000000001) n_M_wind_0 (by decide) dX8_wind_21 ?_
      refine x_cvi X hw [iV (-1000000001)] [] (c_M_errs l G ad hI σ5 (-1000000001) hV) (cwV 1 X.2.2.2.2 gX8_wind_X8_errs rfl rfl rfl hd_M_errs ⟨x_fr hR.1 rfl, x_fr hR.2 rfl⟩) lm0 cX8 rfl hl.1 rfl (Nat.le_of_ble_eq_true rfl) dX8_wind_23 ⟨Nat.zero_le _, Nat.zero_le _⟩ (fun r13 σ12 H locs hV hw => ?_)
      exact hret r13 σ12 H locs ls 26 hV hw dX8_wind_26

theorem n_M_placeOf_0 : Cond.fieldLink RX8 41 "LacePillowModel" "at" "[I" ∈ wsX8_placeOf := by decide +kernel
theorem n_M_placeOf_1 : ∀ w ∈ wsX80, w ∈ wsX8_placeOf := by decide +kernel
set_option maxHeartbeats 4000000 in
set_option maxRecDepth 100000 in
theorem c_M_placeOf (l : Launch) (G : GT) (ad : Nat → Nat) (hI : Inj LM ad) (σ : St) (a1 : Int) {Q : Int → St → Prop} (hV : V_M_placeOf σ a1 Q) : Met l yX8_placeOf wsX8_placeOf (rmx 0 0) (Pq vwCl G LM ad σ [.ref (ad 0), iV a1]) (Qi vwCl G LM ad Q) 0 0 (Ax LM ad) := by
  unfold V_M_placeOf at hV
  refine x_meti (own := RX8) (by decide) rfl rfl (Nat.le_of_ble_eq_true rfl) hI ?_
  intro p e s m args below meth c R QQ X hR hret ls hl hw
  replace hl : lv_has ls 3 [(0, .ref (ad 0)), (1, iV a1)] := hl
  obtain ⟨H, hH⟩ : ∃ z, z = s.heap := ⟨_, rfl⟩
  obtain ⟨locs, hlo⟩ : ∃ z : List Loc, z = [] := ⟨_, rfl⟩
  rw [← hH, ← hlo]
  replace hw : Wx vwCl G LM ad s H locs σ := by rw [hH, hlo]; exact hw
  clear hH hlo
  refine x_iconst X dX8_placeOf_0 ?_
  refine x_istore_n X [(2, iV 0), (0, .ref (ad 0)), (1, iV a1)] dX8_placeOf_1 rfl hl (by decide) rfl (fun ls hl => ?_)
  refine WL1.use (Gl := fun x2_1 σ2 => ∀ (H : Heap) (locs : List Loc) (ls : Array Slot), Wx vwCl G LM ad s H locs σ2 → lv_has ls 3 [(2, iV x2_1), (0, .ref (ad 0)), (1, iV a1)] → W p l e R s m args below meth c H locs 0 0 QQ (F0 m 2 ls [])) ?_ hV H locs ls hw hl
  clear hV hw hl H locs ls
  intro bk3 x2_1 σ2 hbk3 hV H locs ls hw hl
  refine x_aload_n X dX8_placeOf_2 rfl (lv_at hl 1 rfl) ?_
  refine x_getr X hw lm0 cX8 13 (by decide) rfl n_M_placeOf_1 n_M_placeOf_0 dX8_placeOf_3 ?_
  refine x_iload_n X dX8_placeOf_6 rfl (lv_at hl 0 rfl) ?_
  obtain ⟨hi, hV⟩ := hV
  refine x_iald X hw lm11 rfl rfl hi dX8_placeOf_7 ?_
  refine x_iload_n X dX8_placeOf_8 rfl (lv_at hl 2 rfl) ?_
  refine x_icmp_eq X rfl rfl 18 dX8_placeOf_9 (by decide) (fun hc => ?_) (fun hc => ?_)
  · replace hV := hV.1 hc
    refine x_iload_n X dX8_placeOf_18 rfl (lv_at hl 0 rfl) ?_
    exact hret x2_1 σ2 H locs ls 19 hV hw dX8_placeOf_19
  · replace hV := hV.2 hc
    refine x_iinc X (k := 0) (x2_1 + 1) [(2, iV (x2_1 + 1)), (0, .ref (ad 0)), (1, iV a1)] dX8_placeOf_12 hl rfl rfl (by decide) rfl (fun ls hl => ?_)
    refine x_goto X 2 dX8_placeOf_15 (by decide) ?_
    exact hbk3 (x2_1 + 1) σ2 hV H locs ls hw hl

set_option maxHeartbeats 4000000 in
set_option maxRecDepth 100000 in
theorem c_M_roundsOf (l : Launch) (G : GT) (ad : Nat → Nat) (hI : Inj LM ad) (σ : St) (a1 : Int) {Q : Int → St → Prop} (hV : V_M_roundsOf σ a1 Q) : Met l yX8_roundsOf wsX8_roundsOf (rmx 1 22) (Pq vwCl G LM ad σ [.ref (ad 0), iV a1]) (Qi vwCl G LM ad Q) 0 0 (Ax LM ad) := by
  unfold V_M_roundsOf at hV
  refine x_meti (own := RX8) (by decide) rfl rfl (Nat.le_of_ble_eq_true rfl) hI ?_
  intro p e s m args below meth c R QQ X hR hret ls hl hw
  replace hl : lv_has ls 4 [(0, .ref (ad 0)), (1, iV a1)] := hl
  obtain ⟨H, hH⟩ : ∃ z, z = s.heap := ⟨_, rfl⟩
  obtain ⟨locs, hlo⟩ : ∃ z : List Loc, z = [] := ⟨_, rfl⟩
  rw [← hH, ← hlo]
  replace hw : Wx vwCl G LM ad s H locs σ := by rw [hH, hlo]; exact hw
  clear hH hlo
  refine x_iconst X dX8_roundsOf_0 ?_
  refine x_istore_n X [(2, iV 1), (0, .ref (ad 0)), (1, iV a1)] dX8_roundsOf_1 rfl hl (by decide) rfl (fun ls hl => ?_)
  refine x_aload_n X dX8_roundsOf_2 rfl (lv_at hl 1 rfl) ?_
  refine x_iload_n X dX8_roundsOf_3 rfl (lv_at hl 2 rfl) ?_
  refine x_cvi X hw [iV a1] [] (c_M_placeOf l G ad hI σ a1 hV) (cwV 1 X.2.2.2.2 gX8_roundsOf_X8_placeOf rfl rfl rfl hd_M_placeOf ⟨x_fr hR.1 rfl, x_fr hR.2 rfl⟩) lm0 cX8 rfl hl.1 rfl (Nat.le_of_ble_eq_true rfl) dX8_roundsOf_4 ⟨Nat.zero_le _, Nat.zero_le _⟩ (fun r2 σ1 H locs hV hw => ?_)
  refine x_istore_n X [(3, iV r2), (2, iV 1), (0, .ref (ad 0)), (1, iV a1)] dX8_roundsOf_7 rfl hl (by decide) rfl (fun ls hl => ?_)
  refine WL2.use (Gl := fun x3_3 x2_4 σ5 => ∀ (H : Heap) (locs : List Loc) (ls : Array Slot), Wx vwCl G LM ad s H locs σ5 → lv_has ls 4 [(3, iV x3_3), (2, iV x2_4), (0, .ref (ad 0)), (1, iV a1)] → W p l e R s m args below meth c H locs 0 0 QQ (F0 m 8 ls [])) ?_ hV H locs ls hw hl
  clear hV hw hl H locs ls
  intro bk6 x3_3 x2_4 σ5 hbk6 hV H locs ls hw hl
  refine x_iload_n X dX8_roundsOf_8 rfl (lv_at hl 0 rfl) ?_
  refine x_iload_n X dX8_roundsOf_9 rfl (lv_at hl 3 rfl) ?_
  refine x_icmp_eq X rfl rfl 25 dX8_roundsOf_10 (by decide) (fun hc => ?_) (fun hc => ?_)
  · replace hV := hV.1 hc
    refine x_iload_n X dX8_roundsOf_25 rfl (lv_at hl 1 rfl) ?_
    exact hret x2_4 σ5 H locs ls 26 hV hw dX8_roundsOf_26
  · replace hV := hV.2 hc
    refine x_iinc X (k := 1) (x2_4 + 1) [(2, iV (x2_4 + 1)), (3, iV x3_3), (0, .ref (ad 0)), (1, iV a1)] dX8_roundsOf_13 hl rfl rfl (by decide) rfl (fun ls hl => ?_)
    refine x_aload_n X dX8_roundsOf_16 rfl (lv_at hl 2 rfl) ?_
    refine x_iload_n X dX8_roundsOf_17 rfl (lv_at hl 1 rfl) ?_
    refine x_cvi X hw [iV x3_3] [] (c_M_placeOf l G ad hI σ5 x3_3 hV) (cwV 1 X.2.2.2.2 gX8_roundsOf_X8_placeOf rfl rfl rfl hd_M_placeOf ⟨x_fr hR.1 rfl, x_fr hR.2 rfl⟩) lm0 cX8 rfl hl.1 rfl (Nat.le_of_ble_eq_true rfl) dX8_roundsOf_18 ⟨Nat.zero_le _, Nat.zero_le _⟩ (fun r8 σ7 H locs hV hw => ?_)
    refine x_istore_n X [(3, iV r8), (2, iV (x2_4 + 1)), (0, .ref (ad 0)), (1, iV a1)] dX8_roundsOf_21 rfl hl (by decide) rfl (fun ls hl => ?_)
    refine x_goto X 8 dX8_roundsOf_22 (by decide) ?_
    exact hbk6 r8 (x2_4 + 1) σ7 hV H locs ls hw hl

theorem n_M_overs_0 : Cond.fieldLink RX8 186 "LacePillowModel" "crossings" "I" ∈ wsX8_overs := by decide +kernel
theorem n_M_overs_1 : ∀ w ∈ wsX80, w ∈ wsX8_overs := by decide +kernel
theorem n_M_overs_2 : Cond.fieldLink RX8 56 "LacePillowModel" "under" "[I" ∈ wsX8_overs := by decide +kernel
theorem n_M_overs_3 : Cond.fieldLink RX8 53 "LacePillowModel" "over" "[I" ∈ wsX8_overs := by decide +kernel
set_option maxHeartbeats 4000000 in
set_option maxRecDepth 100000 in
theorem c_M_overs (l : Launch) (G : GT) (ad : Nat → Nat) (hI : Inj LM ad) (σ : St) (a1 : Int) (a2 : Int) {Q : Int → St → Prop} (hV : V_M_overs σ a1 a2 Q) : Met l yX8_overs wsX8_overs (rmx 0 0) (Pq vwCl G LM ad σ [.ref (ad 0), iV a1, iV a2]) (Qi vwCl G LM ad Q) 0 0 (Ax LM ad) := by
  unfold V_M_overs at hV
  refine x_meti (own := RX8) (by decide) rfl rfl (Nat.le_of_ble_eq_true rfl) hI ?_
  intro p e s m args below meth c R QQ X hR hret ls hl hw
  replace hl : lv_has ls 5 [(0, .ref (ad 0)), (1, iV a1), (2, iV a2)] := hl
  obtain ⟨H, hH⟩ : ∃ z, z = s.heap := ⟨_, rfl⟩
  obtain ⟨locs, hlo⟩ : ∃ z : List Loc, z = [] := ⟨_, rfl⟩
  rw [← hH, ← hlo]
  replace hw : Wx vwCl G LM ad s H locs σ := by rw [hH, hlo]; exact hw
  clear hH hlo
  refine x_iconst X dX8_overs_0 ?_
  refine x_istore_n X [(3, iV 0), (0, .ref (ad 0)), (1, iV a1), (2, iV a2)] dX8_overs_1 rfl hl (by decide) rfl (fun ls hl => ?_)
  refine x_iconst X dX8_overs_2 ?_
  refine x_istore X [(4, iV 0), (3, iV 0), (0, .ref (ad 0)), (1, iV a1), (2, iV a2)] dX8_overs_3 hl (by decide) rfl (fun ls hl => ?_)
  refine WL2.use (Gl := fun x4_1 x3_2 σ3 => ∀ (H : Heap) (locs : List Loc) (ls : Array Slot), Wx vwCl G LM ad s H locs σ3 → lv_has ls 5 [(4, iV x4_1), (3, iV x3_2), (0, .ref (ad 0)), (1, iV a1), (2, iV a2)] → W p l e R s m args below meth c H locs 0 0 QQ (F0 m 5 ls [])) ?_ hV H locs ls hw hl
  clear hV hw hl H locs ls
  intro bk4 x4_1 x3_2 σ3 hbk4 hV H locs ls hw hl
  refine x_iload X dX8_overs_5 (lv_at hl 0 rfl) ?_
  refine x_aload_n X dX8_overs_7 rfl (lv_at hl 2 rfl) ?_
  refine x_geti X hw lm0 cX8 15 (by decide) rfl n_M_overs_1 n_M_overs_0 dX8_overs_8 ?_
  refine x_icmp_ge X rfl rfl 53 dX8_overs_11 (by decide) (fun hc => ?_) (fun hc => ?_)
  · replace hV := hV.1 hc
    refine x_iload_n X dX8_overs_53 rfl (lv_at hl 1 rfl) ?_
    exact hret x3_2 σ3 H locs ls 54 hV hw dX8_overs_54
  · replace hV := hV.2 hc
    refine x_iload_n X dX8_overs_14 rfl (lv_at hl 1 rfl) ?_
    refine x_iload_n X dX8_overs_15 rfl (lv_at hl 4 rfl) ?_
    have hJ36 : ∀ (y1_5 : Int) (σ6 : St) (H : Heap) (locs : List Loc) (ls : Array Slot), J_M_overs_36 a1 x4_1 x3_2 bk4 y1_5 σ6 → Wx vwCl G LM ad s H locs σ6 → lv_has ls 5 [(4, iV x4_1), (0, .ref (ad 0)), (1, iV a1), (2, iV a2)] → W p l e R s m args below meth c H locs 0 0 QQ (F0 m 36 ls [iV y1_5, iV x3_2]) := by
      intro y1_5 σ6 H locs ls hV hw hl
      unfold J_M_overs_36 at hV
      refine x_iload_n X dX8_overs_36 rfl (lv_at hl 2 rfl) ?_
      refine x_icmp_ne X rfl rfl 44 dX8_overs_37 (by decide) (fun hc => ?_) (fun hc => ?_)
      · replace hV := hV.1 hc
        refine x_iconst X dX8_overs_44 ?_
        refine x_iadd X dX8_overs_45 ?_
        refine x_bi (fun x3_7 ex3_7 => ?_)
        replace hV := hV x3_7 ex3_7
        clear ex3_7
        refine x_istore_n X [(3, iV x3_7), (4, iV x4_1), (0, .ref (ad 0)), (1, iV a1), (2, iV a2)] dX8_overs_46 rfl hl (by decide) rfl (fun ls hl => ?_)
        refine x_iinc X (k := 1) (x4_1 + 1) [(4, iV (x4_1 + 1)), (3, iV x3_7), (0, .ref (ad 0)), (1, iV a1), (2, iV a2)] dX8_overs_47 hl rfl rfl (by decide) rfl (fun ls hl => ?_)
        refine x_goto X 5 dX8_overs_50 (by decide) ?_
        exact hbk4 (x4_1 + 1) x3_7 σ6 hV H locs ls hw hl
      · replace hV := hV.2 hc
        refine x_iconst X dX8_overs_40 ?_
        refine x_goto X 45 dX8_overs_41 (by decide) ?_
        refine x_iadd X dX8_overs_45 ?_
        refine x_bi (fun x3_8 ex3_8 => ?_)
        replace hV := hV x3_8 ex3_8
        clear ex3_8
        refine x_istore_n X [(3, iV x3_8), (4, iV x4_1), (0, .ref (ad 0)), (1, iV a1), (2, iV a2)] dX8_overs_46 rfl hl (by decide) rfl (fun ls hl => ?_)
        refine x_iinc X (k := 1) (x4_1 + 1) [(4, iV (x4_1 + 1)), (3, iV x3_8), (0, .ref (ad 0)), (1, iV a1), (2, iV a2)] dX8_overs_47 hl rfl rfl (by decide) rfl (fun ls hl => ?_)
        refine x_goto X 5 dX8_overs_50 (by decide) ?_
        exact hbk4 (x4_1 + 1) x3_8 σ6 hV H locs ls hw hl
    refine x_if_eq X rfl 29 dX8_overs_16 (by decide) (fun hc => ?_) (fun hc => ?_)
    · replace hV := hV.1 hc
      refine x_aload_n X dX8_overs_29 rfl (lv_at hl 2 rfl) ?_
      refine x_getr X hw lm0 cX8 19 (by decide) rfl n_M_overs_1 n_M_overs_2 dX8_overs_30 ?_
      refine x_iload X dX8_overs_33 (lv_at hl 0 rfl) ?_
      obtain ⟨hi, hV⟩ := hV
      refine x_iald X hw lm16 rfl rfl hi dX8_overs_35 ?_
      exact hJ36 (σ3 16 (i32 x4_1)) σ3 H locs ls hV hw (lv_sub hl [0, 2, 3, 4] rfl)
    · replace hV := hV.2 hc
      refine x_aload_n X dX8_overs_19 rfl (lv_at hl 2 rfl) ?_
      refine x_getr X hw lm0 cX8 18 (by decide) rfl n_M_overs_1 n_M_overs_3 dX8_overs_20 ?_
      refine x_iload X dX8_overs_23 (lv_at hl 0 rfl) ?_
      obtain ⟨hi, hV⟩ := hV
      refine x_iald X hw lm15 rfl rfl hi dX8_overs_25 ?_
      refine x_goto X 36 dX8_overs_26 (by decide) ?_
      exact hJ36 (σ3 15 (i32 x4_1)) σ3 H locs ls hV hw (lv_sub hl [0, 2, 3, 4] rfl)

theorem n_M_falseOf_0 : Cond.fieldLink RX8 186 "LacePillowModel" "crossings" "I" ∈ wsX8_falseOf := by decide +kernel
theorem n_M_falseOf_1 : ∀ w ∈ wsX80, w ∈ wsX8_falseOf := by decide +kernel
theorem n_M_falseOf_2 : Cond.fieldLink RX8 53 "LacePillowModel" "over" "[I" ∈ wsX8_falseOf := by decide +kernel
theorem n_M_falseOf_3 : Cond.fieldLink RX8 56 "LacePillowModel" "under" "[I" ∈ wsX8_falseOf := by decide +kernel
set_option maxHeartbeats 4000000 in
set_option maxRecDepth 100000 in
theorem c_M_falseOf (l : Launch) (G : GT) (ad : Nat → Nat) (hI : Inj LM ad) (σ : St) (a1 : Int) {Q : Int → St → Prop} (hV : V_M_falseOf σ a1 Q) : Met l yX8_falseOf wsX8_falseOf (rmx 0 0) (Pq vwCl G LM ad σ [.ref (ad 0), iV a1]) (Qi vwCl G LM ad Q) 0 0 (Ax LM ad) := by
  unfold V_M_falseOf at hV
  refine x_meti (own := RX8) (by decide) rfl rfl (Nat.le_of_ble_eq_true rfl) hI ?_
  intro p e s m args below meth c R QQ X hR hret ls hl hw
  replace hl : lv_has ls 6 [(0, .ref (ad 0)), (1, iV a1)] := hl
  obtain ⟨H, hH⟩ : ∃ z, z = s.heap := ⟨_, rfl⟩
  obtain ⟨locs, hlo⟩ : ∃ z : List Loc, z = [] := ⟨_, rfl⟩
  rw [← hH, ← hlo]
  replace hw : Wx vwCl G LM ad s H locs σ := by rw [hH, hlo]; exact hw
  clear hH hlo
  refine x_iconst X dX8_falseOf_0 ?_
  refine x_istore_n X [(2, iV 0), (0, .ref (ad 0)), (1, iV a1)] dX8_falseOf_1 rfl hl (by decide) rfl (fun ls hl => ?_)
  refine x_iconst X dX8_falseOf_2 ?_
  refine x_istore_n X [(3, iV (-1)), (2, iV 0), (0, .ref (ad 0)), (1, iV a1)] dX8_falseOf_3 rfl hl (by decide) rfl (fun ls hl => ?_)
  refine x_iconst X dX8_falseOf_4 ?_
  refine x_istore X [(4, iV 0), (3, iV (-1)), (2, iV 0), (0, .ref (ad 0)), (1, iV a1)] dX8_falseOf_5 hl (by decide) rfl (fun ls hl => ?_)
  refine WL3.use (Gl := fun x4_1 x3_2 x2_3 σ4 => ∀ (H : Heap) (locs : List Loc) (ls : Array Slot), Wx vwCl G LM ad s H locs σ4 → lv_has ls 6 [(4, iV x4_1), (3, iV x3_2), (2, iV x2_3), (0, .ref (ad 0)), (1, iV a1)] → W p l e R s m args below meth c H locs 0 0 QQ (F0 m 7 ls [])) ?_ hV H locs ls hw hl
  clear hV hw hl H locs ls
  intro bk5 x4_1 x3_2 x2_3 σ4 hbk5 hV H locs ls hw hl
  refine x_iload X dX8_falseOf_7 (lv_at hl 0 rfl) ?_
  refine x_aload_n X dX8_falseOf_9 rfl (lv_at hl 3 rfl) ?_
  refine x_geti X hw lm0 cX8 15 (by decide) rfl n_M_falseOf_1 n_M_falseOf_0 dX8_falseOf_10 ?_
  refine x_icmp_ge X rfl rfl 79 dX8_falseOf_13 (by decide) (fun hc => ?_) (fun hc => ?_)
  · replace hV := hV.1 hc
    refine x_iconst X dX8_falseOf_79 ?_
    exact hret (-1) σ4 H locs ls 80 hV hw dX8_falseOf_80
  · replace hV := hV.2 hc
    refine x_aload_n X dX8_falseOf_16 rfl (lv_at hl 3 rfl) ?_
    refine x_getr X hw lm0 cX8 18 (by decide) rfl n_M_falseOf_1 n_M_falseOf_2 dX8_falseOf_17 ?_
    refine x_iload X dX8_falseOf_20 (lv_at hl 0 rfl) ?_
    obtain ⟨hi, hV⟩ := hV
    refine x_iald X hw lm15 rfl rfl hi dX8_falseOf_22 ?_
    refine x_iload_n X dX8_falseOf_23 rfl (lv_at hl 4 rfl) ?_
    have hJ41 : ∀ (σ6 : St) (H : Heap) (locs : List Loc) (ls : Array Slot), J_M_falseOf_41 a1 Q x4_1 x3_2 x2_3 bk5 σ6 → Wx vwCl G LM ad s H locs σ6 → lv_has ls 6 [(4, iV x4_1), (3, iV x3_2), (2, iV x2_3), (0, .ref (ad 0)), (1, iV a1)] → W p l e R s m args below meth c H locs 0 0 QQ (F0 m 41 ls []) := by
      intro σ6 H locs ls hV hw hl
      unfold J_M_falseOf_41 at hV
      refine x_aload_n X dX8_falseOf_41 rfl (lv_at hl 3 rfl) ?_
      refine x_getr X hw lm0 cX8 18 (by decide) rfl n_M_falseOf_1 n_M_falseOf_2 dX8_falseOf_42 ?_
      refine x_iload X dX8_falseOf_45 (lv_at hl 0 rfl) ?_
      obtain ⟨hi, hV⟩ := hV
      refine x_iald X hw lm15 rfl rfl hi dX8_falseOf_47 ?_
      refine x_iload_n X dX8_falseOf_48 rfl (lv_at hl 4 rfl) ?_
      have hJ57 : ∀ (y0_7 : Int) (σ8 : St) (H : Heap) (locs : List Loc) (ls : Array Slot), J_M_falseOf_57 Q x4_1 x3_2 x2_3 bk5 y0_7 σ8 → Wx vwCl G LM ad s H locs σ8 → lv_has ls 6 [(4, iV x4_1), (3, iV x3_2), (2, iV x2_3), (0, .ref (ad 0)), (1, iV a1)] → W p l e R s m args below meth c H locs 0 0 QQ (F0 m 57 ls [iV y0_7]) := by
        intro y0_7 σ8 H locs ls hV hw hl
        unfold J_M_falseOf_57 at hV
        refine x_istore X [(5, iV y0_7), (4, iV x4_1), (3, iV x3_2), (2, iV x2_3), (0, .ref (ad 0)), (1, iV a1)] dX8_falseOf_57 hl (by decide) rfl (fun ls hl => ?_)
        refine x_iload X dX8_falseOf_59 (lv_at hl 0 rfl) ?_
        refine x_iload_n X dX8_falseOf_61 rfl (lv_at hl 2 rfl) ?_
        refine x_icmp_ne X rfl rfl 67 dX8_falseOf_62 (by decide) (fun hc => ?_) (fun hc => ?_)
        · replace hV := hV.1 hc
          refine x_iload X dX8_falseOf_67 (lv_at hl 0 rfl) ?_
          refine x_istore_n X [(3, iV y0_7), (5, iV y0_7), (4, iV x4_1), (2, iV x2_3), (0, .ref (ad 0)), (1, iV a1)] dX8_falseOf_69 rfl hl (by decide) rfl (fun ls hl => ?_)
          refine x_iinc X (k := 3) (x2_3 + 1) [(2, iV (x2_3 + 1)), (3, iV y0_7), (5, iV y0_7), (4, iV x4_1), (0, .ref (ad 0)), (1, iV a1)] dX8_falseOf_70 hl rfl rfl (by decide) rfl (fun ls hl => ?_)
          refine x_iinc X (k := 3) (x4_1 + 1) [(4, iV (x4_1 + 1)), (2, iV (x2_3 + 1)), (3, iV y0_7), (5, iV y0_7), (0, .ref (ad 0)), (1, iV a1)] dX8_falseOf_73 hl rfl rfl (by decide) rfl (fun ls hl => ?_)
          refine x_goto X 7 dX8_falseOf_76 (by decide) ?_
          exact hbk5 (x4_1 + 1) y0_7 (x2_3 + 1) σ8 hV H locs ls hw (lv_sub hl [0, 2, 1, 4, 5] rfl)
        · replace hV := hV.2 hc
          refine x_iload_n X dX8_falseOf_65 rfl (lv_at hl 3 rfl) ?_
          exact hret x2_3 σ8 H locs ls 66 hV hw dX8_falseOf_66
      refine x_icmp_ne X rfl rfl 56 dX8_falseOf_49 (by decide) (fun hc => ?_) (fun hc => ?_)
      · replace hV := hV.1 hc
        refine x_iconst X dX8_falseOf_56 ?_
        exact hJ57 0 σ6 H locs ls hV hw hl
      · replace hV := hV.2 hc
        refine x_iconst X dX8_falseOf_52 ?_
        refine x_goto X 57 dX8_falseOf_53 (by decide) ?_
        exact hJ57 1 σ6 H locs ls hV hw hl
    refine x_icmp_eq X rfl rfl 41 dX8_falseOf_24 (by decide) (fun hc => ?_) (fun hc => ?_)
    · replace hV := hV.1 hc
      exact hJ41 σ4 H locs ls hV hw hl
    · replace hV := hV.2 hc
      refine x_aload_n X dX8_falseOf_27 rfl (lv_at hl 3 rfl) ?_
      refine x_getr X hw lm0 cX8 19 (by decide) rfl n_M_falseOf_1 n_M_falseOf_3 dX8_falseOf_28 ?_
      refine x_iload X dX8_falseOf_31 (lv_at hl 0 rfl) ?_
      obtain ⟨hi, hV⟩ := hV
      refine x_iald X hw lm16 rfl rfl hi dX8_falseOf_33 ?_
      refine x_iload_n X dX8_falseOf_34 rfl (lv_at hl 4 rfl) ?_
      refine x_icmp_eq X rfl rfl 41 dX8_falseOf_35 (by decide) (fun hc => ?_) (fun hc => ?_)
      · replace hV := hV.1 hc
        exact hJ41 σ4 H locs ls hV hw hl
      · replace hV := hV.2 hc
        refine x_goto X 73 dX8_falseOf_38 (by decide) ?_
        refine x_iinc X (k := 0) (x4_1 + 1) [(4, iV (x4_1 + 1)), (3, iV x3_2), (2, iV x2_3), (0, .ref (ad 0)), (1, iV a1)] dX8_falseOf_73 hl rfl rfl (by decide) rfl (fun ls hl => ?_)
        refine x_goto X 7 dX8_falseOf_76 (by decide) ?_
        exact hbk5 (x4_1 + 1) x3_2 x2_3 σ4 hV H locs ls hw hl

theorem n_M_thread_0 : Cond.constant RX8 149 (-1000000001) ∈ wsX8_thread := by decide +kernel
theorem n_M_thread_1 : Cond.constantLong RX8 219 (7) ∈ wsX8_thread := by decide +kernel
theorem n_M_thread_2 : Cond.fieldLink RX8 9 "LacePillowModel" "now" "[I" ∈ wsX8_thread := by decide +kernel
theorem n_M_thread_3 : ∀ w ∈ wsX80, w ∈ wsX8_thread := by decide +kernel
theorem n_M_thread_4 : Cond.fieldLink RX8 44 "LacePillowModel" "used" "[I" ∈ wsX8_thread := by decide +kernel
set_option maxHeartbeats 4000000 in
set_option maxRecDepth 100000 in
theorem c_M_thread (l : Launch) (G : GT) (ad : Nat → Nat) (hI : Inj LM ad) (σ : St) (a1 : Int) (a2 : Int) {Q : Int → St → Prop} (hV : V_M_thread σ a1 a2 Q) : Met l yX8_thread wsX8_thread (rmx 5 116) (Pq vwCl G LM ad σ [.ref (ad 0), iV a1, iV a2]) (Qi vwCl G LM ad Q) 0 0 (Ax LM ad) := by
  unfold V_M_thread at hV
  refine x_meti (own := RX8) (by decide) rfl rfl (Nat.le_of_ble_eq_true rfl) hI ?_
  intro p e s m args below meth c R QQ X hR hret ls hl hw
  replace hl : lv_has ls 3 [(0, .ref (ad 0)), (1, iV a1), (2, iV a2)] := hl
  obtain ⟨H, hH⟩ : ∃ z, z = s.heap := ⟨_, rfl⟩
  obtain ⟨locs, hlo⟩ : ∃ z : List Loc, z = [] := ⟨_, rfl⟩
  rw [← hH, ← hlo]
  replace hw : Wx vwCl G LM ad s H locs σ := by rw [hH, hlo]; exact hw
  clear hH hlo
  refine x_aload_n X dX8_thread_0 rfl (lv_at hl 0 rfl) ?_
  refine x_iload_n X dX8_thread_1 rfl (lv_at hl 1 rfl) ?_
  refine x_cvz X hw [iV a1] [] (c_M_isThread l G ad hI σ a1 hV) (cwV 1 X.2.2.2.2 gX8_thread_X8_isThread rfl rfl rfl hd_M_isThread ⟨x_fr hR.1 rfl, x_fr hR.2 rfl⟩) lm0 cX8 rfl hl.1 rfl (Nat.le_of_ble_eq_true rfl) dX8_thread_2 ⟨Nat.zero_le _, Nat.zero_le _⟩ (fun r2 σ1 H locs hr2 hV hw => ?_)
  refine x_if_eq X rfl 20 dX8_thread_5 (by decide) (fun hc => ?_) (fun hc => ?_)
  · replace hV := hV.1 hc
    refine x_aload_n X dX8_thread_20 rfl (lv_at hl 0 rfl) ?_
    refine x_ldc X (-1000000001) n_M_thread_0 (by decide) dX8_thread_21 ?_
    refine x_cvi X hw [iV (-1000000001)] [] (c_M_errs l G ad hI σ1 (-1000000001) hV) (cwV 1 X.2.2.2.2 gX8_thread_X8_errs rfl rfl rfl hd_M_errs ⟨x_fr hR.1 rfl, x_fr hR.2 rfl⟩) lm0 cX8 rfl hl.1 rfl (Nat.le_of_ble_eq_true rfl) dX8_thread_23 ⟨Nat.zero_le _, Nat.zero_le _⟩ (fun r4 σ3 H locs hV hw => ?_)
    exact hret r4 σ3 H locs ls 26 hV hw dX8_thread_26
  · replace hV := hV.2 hc
    refine x_iload_n X dX8_thread_8 rfl (lv_at hl 2 rfl) ?_
    refine x_i2l X dX8_thread_9 ?_
    refine x_lconst X 0 dX8_thread_10 rfl ?_
    refine x_ldc2 X 7 n_M_thread_1 (by decide) dX8_thread_11 ?_
    refine x_csz X hw [lV (i32 a2), lV 0, lV 7] [] (c_M_in l G ad hI σ1 (i32 a2) 0 7 hV) (va_cwS 3 X.2.2.2.2 gX8_thread_X8_in rfl rfl rfl hd_M_in ⟨x_fr hR.1 rfl, x_fr hR.2 rfl⟩) rfl hl.1 rfl (Nat.le_of_ble_eq_true rfl) dX8_thread_14 ⟨Nat.zero_le _, Nat.zero_le _⟩ (fun r6 σ5 H locs hr6 hV hw => ?_)
    refine x_if_ne X rfl 27 dX8_thread_17 (by decide) (fun hc => ?_) (fun hc => ?_)
    · replace hV := hV.1 hc
      refine x_aload_n X dX8_thread_27 rfl (lv_at hl 0 rfl) ?_
      refine x_iload_n X dX8_thread_28 rfl (lv_at hl 2 rfl) ?_
      refine x_iconst X dX8_thread_29 ?_
      have hJ38 : ∀ (y1_7 : Int) (σ8 : St) (H : Heap) (locs : List Loc) (ls : Array Slot), J_M_thread_38 a1 a2 Q y1_7 σ8 → Wx vwCl G LM ad s H locs σ8 → lv_has ls 3 [(0, .ref (ad 0)), (1, iV a1), (2, iV a2)] → W p l e R s m args below meth c H locs 0 0 QQ (F0 m 38 ls [iV y1_7, .ref (ad 0)]) := by
        intro y1_7 σ8 H locs ls hV hw hl
        unfold J_M_thread_38 at hV
        refine x_cvv X hw [iV y1_7] [] (c_M_whole l G ad hI σ8 y1_7 hV) (cwV 1 X.2.2.2.2 gX8_thread_X8_whole rfl rfl rfl hd_M_whole ⟨x_fr hR.1 rfl, x_fr hR.2 rfl⟩) lm0 cX8 rfl hl.1 rfl (Nat.le_of_ble_eq_true rfl) dX8_thread_38 ⟨Nat.zero_le _, Nat.zero_le _⟩ (fun σ9 H locs hV hw => ?_)
        refine x_iload_n X dX8_thread_41 rfl (lv_at hl 2 rfl) ?_
        by_cases hc0 : i32 a2 = 0
        · replace hV := hV.1 hc0
          refine x_tabIn X 0 84 dX8_thread_42 (hc0) (by decide) (by decide) rfl (by decide) ?_
          refine x_aload_n X dX8_thread_84 rfl (lv_at hl 0 rfl) ?_
          refine x_getr X hw lm0 cX8 0 (by decide) rfl n_M_thread_3 n_M_thread_2 dX8_thread_85 ?_
          refine x_sipush X dX8_thread_88 (by decide) ?_
          refine x_iload_n X dX8_thread_91 rfl (lv_at hl 1 rfl) ?_
          refine x_iadd X dX8_thread_92 ?_
          obtain ⟨hi, hV⟩ := hV
          refine x_iald X hw lm1 rfl rfl hi dX8_thread_93 ?_
          exact hret (σ9 1 (i32 (140 + a1))) σ9 H locs ls 94 hV hw dX8_thread_94
        by_cases hc1 : i32 a2 = 1
        · replace hV := hV.2.1 hc1
          refine x_tabIn X 1 95 dX8_thread_42 (hc1) (by decide) (by decide) rfl (by decide) ?_
          refine x_aload_n X dX8_thread_95 rfl (lv_at hl 0 rfl) ?_
          refine x_getr X hw lm0 cX8 0 (by decide) rfl n_M_thread_3 n_M_thread_2 dX8_thread_96 ?_
          refine x_sipush X dX8_thread_99 (by decide) ?_
          refine x_iload_n X dX8_thread_102 rfl (lv_at hl 1 rfl) ?_
          refine x_iadd X dX8_thread_103 ?_
          obtain ⟨hi, hV⟩ := hV
          refine x_iald X hw lm1 rfl rfl hi dX8_thread_104 ?_
          refine x_aload_n X dX8_thread_105 rfl (lv_at hl 0 rfl) ?_
          refine x_getr X hw lm0 cX8 14 (by decide) rfl n_M_thread_3 n_M_thread_4 dX8_thread_106 ?_
          refine x_iload_n X dX8_thread_109 rfl (lv_at hl 1 rfl) ?_
          obtain ⟨hi, hV⟩ := hV
          refine x_iald X hw lm12 rfl rfl hi dX8_thread_110 ?_
          refine x_isub X dX8_thread_111 ?_
          exact hret ((σ9 1 (i32 (140 + a1))) - (σ9 12 (i32 a1))) σ9 H locs ls 112 hV hw dX8_thread_112
        by_cases hc2 : i32 a2 = 2
        · replace hV := hV.2.2.1 hc2
          refine x_tabIn X 2 113 dX8_thread_42 (hc2) (by decide) (by decide) rfl (by decide) ?_
          refine x_aload_n X dX8_thread_113 rfl (lv_at hl 0 rfl) ?_
          refine x_iload_n X dX8_thread_114 rfl (lv_at hl 1 rfl) ?_
          refine x_cvi X hw [iV a1] [] (c_M_placeOf l G ad hI σ9 a1 hV) (cwV 1 X.2.2.2.2 gX8_thread_X8_placeOf rfl rfl rfl hd_M_placeOf ⟨x_fr hR.1 rfl, x_fr hR.2 rfl⟩) lm0 cX8 rfl hl.1 rfl (Nat.le_of_ble_eq_true rfl) dX8_thread_115 ⟨Nat.zero_le _, Nat.zero_le _⟩ (fun r11 σ10 H locs hV hw => ?_)
          exact hret r11 σ10 H locs ls 118 hV hw dX8_thread_118
        by_cases hc3 : i32 a2 = 3
        · replace hV := hV.2.2.2.1 hc3
          refine x_tabIn X 3 119 dX8_thread_42 (hc3) (by decide) (by decide) rfl (by decide) ?_
          refine x_aload_n X dX8_thread_119 rfl (lv_at hl 0 rfl) ?_
          refine x_iload_n X dX8_thread_120 rfl (lv_at hl 1 rfl) ?_
          refine x_cvi X hw [iV a1] [] (c_M_roundsOf l G ad hI σ9 a1 hV) (cwV 1 X.2.2.2.2 gX8_thread_X8_roundsOf rfl rfl rfl hd_M_roundsOf ⟨x_fr hR.1 rfl, x_fr hR.2 rfl⟩) lm0 cX8 rfl hl.1 rfl (Nat.le_of_ble_eq_true rfl) dX8_thread_121 ⟨Nat.zero_le _, Nat.zero_le _⟩ (fun r13 σ12 H locs hV hw => ?_)
          exact hret r13 σ12 H locs ls 124 hV hw dX8_thread_124
        by_cases hc4 : i32 a2 = 4
        · replace hV := hV.2.2.2.2.1 hc4
          refine x_tabIn X 4 125 dX8_thread_42 (hc4) (by decide) (by decide) rfl (by decide) ?_
          refine x_aload_n X dX8_thread_125 rfl (lv_at hl 0 rfl) ?_
          refine x_getr X hw lm0 cX8 14 (by decide) rfl n_M_thread_3 n_M_thread_4 dX8_thread_126 ?_
          refine x_iload_n X dX8_thread_129 rfl (lv_at hl 1 rfl) ?_
          obtain ⟨hi, hV⟩ := hV
          refine x_iald X hw lm12 rfl rfl hi dX8_thread_130 ?_
          exact hret (σ9 12 (i32 a1)) σ9 H locs ls 131 hV hw dX8_thread_131
        by_cases hc5 : i32 a2 = 5
        · replace hV := hV.2.2.2.2.2.1 hc5
          refine x_tabIn X 5 132 dX8_thread_42 (hc5) (by decide) (by decide) rfl (by decide) ?_
          refine x_aload_n X dX8_thread_132 rfl (lv_at hl 0 rfl) ?_
          refine x_iload_n X dX8_thread_133 rfl (lv_at hl 1 rfl) ?_
          refine x_iconst X dX8_thread_134 ?_
          refine x_cvi X hw [iV a1, iV 1] [] (c_M_overs l G ad hI σ9 a1 1 hV) (cwV 2 X.2.2.2.2 gX8_thread_X8_overs rfl rfl rfl hd_M_overs ⟨x_fr hR.1 rfl, x_fr hR.2 rfl⟩) lm0 cX8 rfl hl.1 rfl (Nat.le_of_ble_eq_true rfl) dX8_thread_135 ⟨Nat.zero_le _, Nat.zero_le _⟩ (fun r15 σ14 H locs hV hw => ?_)
          exact hret r15 σ14 H locs ls 138 hV hw dX8_thread_138
        by_cases hc6 : i32 a2 = 6
        · replace hV := hV.2.2.2.2.2.2.1 hc6
          refine x_tabIn X 6 139 dX8_thread_42 (hc6) (by decide) (by decide) rfl (by decide) ?_
          refine x_aload_n X dX8_thread_139 rfl (lv_at hl 0 rfl) ?_
          refine x_iload_n X dX8_thread_140 rfl (lv_at hl 1 rfl) ?_
          refine x_iconst X dX8_thread_141 ?_
          refine x_cvi X hw [iV a1, iV 0] [] (c_M_overs l G ad hI σ9 a1 0 hV) (cwV 2 X.2.2.2.2 gX8_thread_X8_overs rfl rfl rfl hd_M_overs ⟨x_fr hR.1 rfl, x_fr hR.2 rfl⟩) lm0 cX8 rfl hl.1 rfl (Nat.le_of_ble_eq_true rfl) dX8_thread_142 ⟨Nat.zero_le _, Nat.zero_le _⟩ (fun r17 σ16 H locs hV hw => ?_)
          exact hret r17 σ16 H locs ls 145 hV hw dX8_thread_145
        have hc : i32 a2 < 0 ∨ 6 < i32 a2 := by omega
        replace hV := hV.2.2.2.2.2.2.2 hc
        refine x_tabOut X 146 dX8_thread_42 hc (by decide) ?_
        refine x_aload_n X dX8_thread_146 rfl (lv_at hl 0 rfl) ?_
        refine x_iload_n X dX8_thread_147 rfl (lv_at hl 1 rfl) ?_
        refine x_cvi X hw [iV a1] [] (c_M_falseOf l G ad hI σ9 a1 hV) (cwV 1 X.2.2.2.2 gX8_thread_X8_falseOf rfl rfl rfl hd_M_falseOf ⟨x_fr hR.1 rfl, x_fr hR.2 rfl⟩) lm0 cX8 rfl hl.1 rfl (Nat.le_of_ble_eq_true rfl) dX8_thread_148 ⟨Nat.zero_le _, Nat.zero_le _⟩ (fun r19 σ18 H locs hV hw => ?_)
        exact hret r19 σ18 H locs ls 151 hV hw dX8_thread_151
      refine x_icmp_ge X rfl k32_3 37 dX8_thread_30 (by decide) (fun hc => ?_) (fun hc => ?_)
      · replace hV := hV.1 hc
        refine x_iconst X dX8_thread_37 ?_
        exact hJ38 1 σ5 H locs ls hV hw hl
      · replace hV := hV.2 hc
        refine x_iconst X dX8_thread_33 ?_
        refine x_goto X 38 dX8_thread_34 (by decide) ?_
        exact hJ38 0 σ5 H locs ls hV hw hl
    · replace hV := hV.2 hc
      refine x_aload_n X dX8_thread_20 rfl (lv_at hl 0 rfl) ?_
      refine x_ldc X (-1000000001) n_M_thread_0 (by decide) dX8_thread_21 ?_
      refine x_cvi X hw [iV (-1000000001)] [] (c_M_errs l G ad hI σ5 (-1000000001) hV) (cwV 1 X.2.2.2.2 gX8_thread_X8_errs rfl rfl rfl hd_M_errs ⟨x_fr hR.1 rfl, x_fr hR.2 rfl⟩) lm0 cX8 rfl hl.1 rfl (Nat.le_of_ble_eq_true rfl) dX8_thread_23 ⟨Nat.zero_le _, Nat.zero_le _⟩ (fun r21 σ20 H locs hV hw => ?_)
      exact hret r21 σ20 H locs ls 26 hV hw dX8_thread_26

theorem n_M_place_0 : Cond.constant RX8 149 (-1000000001) ∈ wsX8_place := by decide +kernel
theorem n_M_place_1 : Cond.fieldLink RX8 120 "LacePillowModel" "many" "I" ∈ wsX8_place := by decide +kernel
theorem n_M_place_2 : ∀ w ∈ wsX80, w ∈ wsX8_place := by decide +kernel
set_option maxHeartbeats 4000000 in
set_option maxRecDepth 100000 in
theorem c_M_place (l : Launch) (G : GT) (ad : Nat → Nat) (hI : Inj LM ad) (σ : St) (a1 : Int) (a2 : Int) {Q : Int → St → Prop} (hV : V_M_place σ a1 a2 Q) : Met l yX8_place wsX8_place (rmx 4 95) (Pq vwCl G LM ad σ [.ref (ad 0), iV a1, iV a2]) (Qi vwCl G LM ad Q) 0 0 (Ax LM ad) := by
  unfold V_M_place at hV
  refine x_meti (own := RX8) (by decide) rfl rfl (Nat.le_of_ble_eq_true rfl) hI ?_
  intro p e s m args below meth c R QQ X hR hret ls hl hw
  replace hl : lv_has ls 3 [(0, .ref (ad 0)), (1, iV a1), (2, iV a2)] := hl
  obtain ⟨H, hH⟩ : ∃ z, z = s.heap := ⟨_, rfl⟩
  obtain ⟨locs, hlo⟩ : ∃ z : List Loc, z = [] := ⟨_, rfl⟩
  rw [← hH, ← hlo]
  replace hw : Wx vwCl G LM ad s H locs σ := by rw [hH, hlo]; exact hw
  clear hH hlo
  refine x_aload_n X dX8_place_0 rfl (lv_at hl 0 rfl) ?_
  refine x_iload_n X dX8_place_1 rfl (lv_at hl 1 rfl) ?_
  refine x_cvz X hw [iV a1] [] (c_M_isThread l G ad hI σ a1 hV) (cwV 1 X.2.2.2.2 gX8_place_X8_isThread rfl rfl rfl hd_M_isThread ⟨x_fr hR.1 rfl, x_fr hR.2 rfl⟩) lm0 cX8 rfl hl.1 rfl (Nat.le_of_ble_eq_true rfl) dX8_place_2 ⟨Nat.zero_le _, Nat.zero_le _⟩ (fun r2 σ1 H locs hr2 hV hw => ?_)
  refine x_if_eq X rfl 22 dX8_place_5 (by decide) (fun hc => ?_) (fun hc => ?_)
  · replace hV := hV.1 hc
    refine x_aload_n X dX8_place_22 rfl (lv_at hl 0 rfl) ?_
    refine x_ldc X (-1000000001) n_M_place_0 (by decide) dX8_place_23 ?_
    refine x_cvi X hw [iV (-1000000001)] [] (c_M_errs l G ad hI σ1 (-1000000001) hV) (cwV 1 X.2.2.2.2 gX8_place_X8_errs rfl rfl rfl hd_M_errs ⟨x_fr hR.1 rfl, x_fr hR.2 rfl⟩) lm0 cX8 rfl hl.1 rfl (Nat.le_of_ble_eq_true rfl) dX8_place_25 ⟨Nat.zero_le _, Nat.zero_le _⟩ (fun r4 σ3 H locs hV hw => ?_)
    exact hret r4 σ3 H locs ls 28 hV hw dX8_place_28
  · replace hV := hV.2 hc
    refine x_iload_n X dX8_place_8 rfl (lv_at hl 2 rfl) ?_
    refine x_i2l X dX8_place_9 ?_
    refine x_lconst X 0 dX8_place_10 rfl ?_
    refine x_aload_n X dX8_place_11 rfl (lv_at hl 0 rfl) ?_
    refine x_geti X hw lm0 cX8 5 (by decide) rfl n_M_place_2 n_M_place_1 dX8_place_12 ?_
    refine x_i2l X dX8_place_15 ?_
    refine x_csz X hw [lV (i32 a2), lV 0, lV (i32 (σ1 0 5))] [] (c_M_in l G ad hI σ1 (i32 a2) 0 (i32 (σ1 0 5)) hV) (va_cwS 3 X.2.2.2.2 gX8_place_X8_in rfl rfl rfl hd_M_in ⟨x_fr hR.1 rfl, x_fr hR.2 rfl⟩) rfl hl.1 rfl (Nat.le_of_ble_eq_true rfl) dX8_place_16 ⟨Nat.zero_le _, Nat.zero_le _⟩ (fun r6 σ5 H locs hr6 hV hw => ?_)
    refine x_if_ne X rfl 29 dX8_place_19 (by decide) (fun hc => ?_) (fun hc => ?_)
    · replace hV := hV.1 hc
      refine x_aload_n X dX8_place_29 rfl (lv_at hl 0 rfl) ?_
      refine x_iload_n X dX8_place_30 rfl (lv_at hl 2 rfl) ?_
      refine x_cvv X hw [iV a2] [] (c_M_first l G ad hI σ5 a2 hV) (cwV 1 X.2.2.2.2 gX8_place_X8_first rfl rfl rfl hd_M_first ⟨x_fr hR.1 rfl, x_fr hR.2 rfl⟩) lm0 cX8 rfl hl.1 rfl (Nat.le_of_ble_eq_true rfl) dX8_place_31 ⟨Nat.zero_le _, Nat.zero_le _⟩ (fun σ7 H locs hV hw => ?_)
      refine x_aload_n X dX8_place_34 rfl (lv_at hl 0 rfl) ?_
      refine x_iload_n X dX8_place_35 rfl (lv_at hl 1 rfl) ?_
      refine x_cvi X hw [iV a1] [] (c_M_placeOf l G ad hI σ7 a1 hV) (cwV 1 X.2.2.2.2 gX8_place_X8_placeOf rfl rfl rfl hd_M_placeOf ⟨x_fr hR.1 rfl, x_fr hR.2 rfl⟩) lm0 cX8 rfl hl.1 rfl (Nat.le_of_ble_eq_true rfl) dX8_place_36 ⟨Nat.zero_le _, Nat.zero_le _⟩ (fun r9 σ8 H locs hV hw => ?_)
      exact hret r9 σ8 H locs ls 39 hV hw dX8_place_39
    · replace hV := hV.2 hc
      refine x_aload_n X dX8_place_22 rfl (lv_at hl 0 rfl) ?_
      refine x_ldc X (-1000000001) n_M_place_0 (by decide) dX8_place_23 ?_
      refine x_cvi X hw [iV (-1000000001)] [] (c_M_errs l G ad hI σ5 (-1000000001) hV) (cwV 1 X.2.2.2.2 gX8_place_X8_errs rfl rfl rfl hd_M_errs ⟨x_fr hR.1 rfl, x_fr hR.2 rfl⟩) lm0 cX8 rfl hl.1 rfl (Nat.le_of_ble_eq_true rfl) dX8_place_25 ⟨Nat.zero_le _, Nat.zero_le _⟩ (fun r11 σ10 H locs hV hw => ?_)
      exact hret r11 σ10 H locs ls 28 hV hw dX8_place_28

set_option maxHeartbeats 4000000 in
set_option maxRecDepth 100000 in
theorem c_M_divisor (l : Launch) (G : GT) (ad : Nat → Nat) (hI : Inj LM ad) (σ : St) (a1 : Int) (a2 : Int) {Q : Int → St → Prop} (hV : V_M_divisor σ a1 a2 Q) : Met l yX8_divisor wsX8_divisor (rmx 0 0) (Pq vwCl G LM ad σ [lV a1, lV a2]) (Ql vwCl G LM ad Q) 0 0 (Ax LM ad) := by
  unfold V_M_divisor at hV
  refine x_metl (own := RX8) (by decide) rfl rfl (Nat.le_of_ble_eq_true rfl) hI ?_
  intro p e s m args below meth c R QQ X hR hret ls hl hw
  replace hl : lv_has ls 10 [(0, lV a1), (2, lV a2)] := hl
  obtain ⟨H, hH⟩ : ∃ z, z = s.heap := ⟨_, rfl⟩
  obtain ⟨locs, hlo⟩ : ∃ z : List Loc, z = [] := ⟨_, rfl⟩
  rw [← hH, ← hlo]
  replace hw : Wx vwCl G LM ad s H locs σ := by rw [hH, hlo]; exact hw
  clear hH hlo
  refine x_lload_n X dX8_divisor_0 rfl (lv_at hl 0 rfl) ?_
  refine x_lstore X [(4, lV a1), (0, lV a1), (2, lV a2)] dX8_divisor_1 hl (by decide) rfl (fun ls hl => ?_)
  refine x_lload_n X dX8_divisor_3 rfl (lv_at hl 2 rfl) ?_
  refine x_lstore X [(6, lV a2), (4, lV a1), (0, lV a1), (2, lV a2)] dX8_divisor_4 hl (by decide) rfl (fun ls hl => ?_)
  refine WL2.use (Gl := fun x6_1 x4_2 σ3 => ∀ (H : Heap) (locs : List Loc) (ls : Array Slot), Wx vwCl G LM ad s H locs σ3 → lv_has ls 10 [(6, lV x6_1), (4, lV x4_2)] → W p l e R s m args below meth c H locs 0 0 QQ (F0 m 6 ls [])) ?_ hV H locs ls hw (lv_sub hl [0, 1] rfl)
  clear hV hw hl H locs ls
  intro bk4 x6_1 x4_2 σ3 hbk4 hV H locs ls hw hl
  refine x_lload X dX8_divisor_6 (lv_at hl 0 rfl) ?_
  refine x_lconst X 0 dX8_divisor_8 rfl ?_
  refine x_lcmp_eq X rfl k64_0 31 dX8_divisor_9 dX8_divisor_10 (by decide) (fun hc => ?_) (fun hc => ?_)
  · replace hV := hV.1 hc
    refine x_lload X dX8_divisor_31 (lv_at hl 1 rfl) ?_
    exact hret x4_2 σ3 H locs ls 33 hV hw dX8_divisor_33
  · replace hV := hV.2 hc
    refine x_lload X dX8_divisor_13 (lv_at hl 1 rfl) ?_
    refine x_lload X dX8_divisor_15 (lv_at hl 0 rfl) ?_
    obtain ⟨hn, hV⟩ := hV
    refine x_lrem X dX8_divisor_17 hn ?_
    refine x_bl (fun x8_5 ex8_5 => ?_)
    replace hV := hV x8_5 ex8_5
    clear ex8_5
    refine x_lstore X [(8, lV x8_5), (6, lV x6_1), (4, lV x4_2)] dX8_divisor_18 hl (by decide) rfl (fun ls hl => ?_)
    refine x_lload X dX8_divisor_20 (lv_at hl 1 rfl) ?_
    refine x_lstore X [(4, lV x6_1), (8, lV x8_5), (6, lV x6_1)] dX8_divisor_22 hl (by decide) rfl (fun ls hl => ?_)
    refine x_lload X dX8_divisor_24 (lv_at hl 1 rfl) ?_
    refine x_lstore X [(6, lV x8_5), (4, lV x6_1), (8, lV x8_5)] dX8_divisor_26 hl (by decide) rfl (fun ls hl => ?_)
    refine x_goto X 6 dX8_divisor_28 (by decide) ?_
    exact hbk4 x8_5 x6_1 σ3 hV H locs ls hw (lv_sub hl [0, 1] rfl)

theorem n_M_rounds_0 : Cond.fieldLink RX8 120 "LacePillowModel" "many" "I" ∈ wsX8_rounds := by decide +kernel
theorem n_M_rounds_1 : ∀ w ∈ wsX80, w ∈ wsX8_rounds := by decide +kernel
set_option maxHeartbeats 4000000 in
set_option maxRecDepth 100000 in
theorem c_M_rounds (l : Launch) (G : GT) (ad : Nat → Nat) (hI : Inj LM ad) (σ : St) {Q : Int → St → Prop} (hV : V_M_rounds σ Q) : Met l yX8_rounds wsX8_rounds (rmx 4 95) (Pq vwCl G LM ad σ [.ref (ad 0)]) (Ql vwCl G LM ad Q) 0 0 (Ax LM ad) := by
  unfold V_M_rounds at hV
  refine x_metl (own := RX8) (by decide) rfl rfl (Nat.le_of_ble_eq_true rfl) hI ?_
  intro p e s m args below meth c R QQ X hR hret ls hl hw
  replace hl : lv_has ls 6 [(0, .ref (ad 0))] := hl
  obtain ⟨H, hH⟩ : ∃ z, z = s.heap := ⟨_, rfl⟩
  obtain ⟨locs, hlo⟩ : ∃ z : List Loc, z = [] := ⟨_, rfl⟩
  rw [← hH, ← hlo]
  replace hw : Wx vwCl G LM ad s H locs σ := by rw [hH, hlo]; exact hw
  clear hH hlo
  refine x_aload_n X dX8_rounds_0 rfl (lv_at hl 0 rfl) ?_
  refine x_aload_n X dX8_rounds_1 rfl (lv_at hl 0 rfl) ?_
  refine x_geti X hw lm0 cX8 5 (by decide) rfl n_M_rounds_1 n_M_rounds_0 dX8_rounds_2 ?_
  refine x_cvv X hw [iV (σ 0 5)] [] (c_M_first l G ad hI σ (σ 0 5) hV) (cwV 1 X.2.2.2.2 gX8_rounds_X8_first rfl rfl rfl hd_M_first ⟨x_fr hR.1 rfl, x_fr hR.2 rfl⟩) lm0 cX8 rfl hl.1 rfl (Nat.le_of_ble_eq_true rfl) dX8_rounds_5 ⟨Nat.zero_le _, Nat.zero_le _⟩ (fun σ1 H locs hV hw => ?_)
  refine x_lconst X 1 dX8_rounds_8 rfl ?_
  refine x_lstore_n X [(1, lV 1), (0, .ref (ad 0))] dX8_rounds_9 rfl hl (by decide) rfl (fun ls hl => ?_)
  refine x_iconst X dX8_rounds_10 ?_
  refine x_istore_n X [(3, iV 0), (1, lV 1), (0, .ref (ad 0))] dX8_rounds_11 rfl hl (by decide) rfl (fun ls hl => ?_)
  refine WL2.use (Gl := fun x3_2 x1_3 σ4 => ∀ (H : Heap) (locs : List Loc) (ls : Array Slot), Wx vwCl G LM ad s H locs σ4 → lv_has ls 6 [(3, iV x3_2), (1, lV x1_3), (0, .ref (ad 0))] → W p l e R s m args below meth c H locs 0 0 QQ (F0 m 12 ls [])) ?_ hV H locs ls hw hl
  clear hV hw hl H locs ls
  intro bk5 x3_2 x1_3 σ4 hbk5 hV H locs ls hw hl
  refine x_iload_n X dX8_rounds_12 rfl (lv_at hl 0 rfl) ?_
  refine x_aload_n X dX8_rounds_13 rfl (lv_at hl 2 rfl) ?_
  refine x_cvi X hw [] [iV x3_2] (c_M_threads l G ad hI σ4 hV) (cwV 0 X.2.2.2.2 gX8_rounds_X8_threads rfl rfl rfl hd_M_threads ⟨x_fr hR.1 rfl, x_fr hR.2 rfl⟩) lm0 cX8 rfl hl.1 rfl (Nat.le_of_ble_eq_true rfl) dX8_rounds_14 ⟨Nat.zero_le _, Nat.zero_le _⟩ (fun r7 σ6 H locs hV hw => ?_)
  refine x_icmp_ge X rfl rfl 46 dX8_rounds_17 (by decide) (fun hc => ?_) (fun hc => ?_)
  · replace hV := hV.1 hc
    refine x_lload_n X dX8_rounds_46 rfl (lv_at hl 1 rfl) ?_
    exact hret x1_3 σ6 H locs ls 47 hV hw dX8_rounds_47
  · replace hV := hV.2 hc
    refine x_aload_n X dX8_rounds_20 rfl (lv_at hl 2 rfl) ?_
    refine x_iload_n X dX8_rounds_21 rfl (lv_at hl 0 rfl) ?_
    refine x_cvi X hw [iV x3_2] [] (c_M_roundsOf l G ad hI σ6 x3_2 hV) (cwV 1 X.2.2.2.2 gX8_rounds_X8_roundsOf rfl rfl rfl hd_M_roundsOf ⟨x_fr hR.1 rfl, x_fr hR.2 rfl⟩) lm0 cX8 rfl hl.1 rfl (Nat.le_of_ble_eq_true rfl) dX8_rounds_22 ⟨Nat.zero_le _, Nat.zero_le _⟩ (fun r9 σ8 H locs hV hw => ?_)
    refine x_i2l X dX8_rounds_25 ?_
    refine x_bl (fun x4_10 ex4_10 => ?_)
    replace hV := hV x4_10 ex4_10
    clear ex4_10
    refine x_lstore X [(4, lV x4_10), (3, iV x3_2), (1, lV x1_3), (0, .ref (ad 0))] dX8_rounds_26 hl (by decide) rfl (fun ls hl => ?_)
    refine x_lload_n X dX8_rounds_28 rfl (lv_at hl 2 rfl) ?_
    refine x_lload_n X dX8_rounds_29 rfl (lv_at hl 2 rfl) ?_
    refine x_lload X dX8_rounds_30 (lv_at hl 0 rfl) ?_
    refine x_csl X hw [lV x1_3, lV x4_10] [lV x1_3] (c_M_divisor l G ad hI σ8 x1_3 x4_10 hV) (va_cwS 2 X.2.2.2.2 gX8_rounds_X8_divisor rfl rfl rfl hd_M_divisor ⟨x_fr hR.1 rfl, x_fr hR.2 rfl⟩) rfl hl.1 rfl (Nat.le_of_ble_eq_true rfl) dX8_rounds_32 ⟨Nat.zero_le _, Nat.zero_le _⟩ (fun r12 σ11 H locs hV hw => ?_)
    obtain ⟨hn, hV⟩ := hV
    refine x_ldiv X dX8_rounds_35 hn ?_
    refine x_lload X dX8_rounds_36 (lv_at hl 0 rfl) ?_
    refine x_lmul X dX8_rounds_38 ?_
    refine x_bl (fun x1_13 ex1_13 => ?_)
    replace hV := hV x1_13 ex1_13
    clear ex1_13
    refine x_lstore_n X [(1, lV x1_13), (4, lV x4_10), (3, iV x3_2), (0, .ref (ad 0))] dX8_rounds_39 rfl hl (by decide) rfl (fun ls hl => ?_)
    refine x_iinc X (k := 2) (x3_2 + 1) [(3, iV (x3_2 + 1)), (1, lV x1_13), (4, lV x4_10), (0, .ref (ad 0))] dX8_rounds_40 hl rfl rfl (by decide) rfl (fun ls hl => ?_)
    refine x_goto X 12 dX8_rounds_43 (by decide) ?_
    exact hbk5 (x3_2 + 1) x1_13 σ11 hV H locs ls hw (lv_sub hl [0, 1, 3] rfl)

theorem n_M_link_0 : Cond.constant RX8 149 (-1000000001) ∈ wsX8_link := by decide +kernel
theorem n_M_link_1 : Cond.fieldLink RX8 120 "LacePillowModel" "many" "I" ∈ wsX8_link := by decide +kernel
theorem n_M_link_2 : ∀ w ∈ wsX80, w ∈ wsX8_link := by decide +kernel
theorem n_M_link_3 : Cond.fieldLink RX8 186 "LacePillowModel" "crossings" "I" ∈ wsX8_link := by decide +kernel
theorem n_M_link_4 : Cond.fieldLink RX8 53 "LacePillowModel" "over" "[I" ∈ wsX8_link := by decide +kernel
theorem n_M_link_5 : Cond.fieldLink RX8 56 "LacePillowModel" "under" "[I" ∈ wsX8_link := by decide +kernel
set_option maxHeartbeats 4000000 in
set_option maxRecDepth 100000 in
theorem c_M_link (l : Launch) (G : GT) (ad : Nat → Nat) (hI : Inj LM ad) (σ : St) (a1 : Int) (a2 : Int) {Q : Int → St → Prop} (hV : V_M_link σ a1 a2 Q) : Met l yX8_link wsX8_link (rmx 4 95) (Pq vwCl G LM ad σ [.ref (ad 0), iV a1, iV a2]) (Qi vwCl G LM ad Q) 0 0 (Ax LM ad) := by
  unfold V_M_link at hV
  refine x_meti (own := RX8) (by decide) rfl rfl (Nat.le_of_ble_eq_true rfl) hI ?_
  intro p e s m args below meth c R QQ X hR hret ls hl hw
  replace hl : lv_has ls 5 [(0, .ref (ad 0)), (1, iV a1), (2, iV a2)] := hl
  obtain ⟨H, hH⟩ : ∃ z, z = s.heap := ⟨_, rfl⟩
  obtain ⟨locs, hlo⟩ : ∃ z : List Loc, z = [] := ⟨_, rfl⟩
  rw [← hH, ← hlo]
  replace hw : Wx vwCl G LM ad s H locs σ := by rw [hH, hlo]; exact hw
  clear hH hlo
  refine x_aload_n X dX8_link_0 rfl (lv_at hl 0 rfl) ?_
  refine x_iload_n X dX8_link_1 rfl (lv_at hl 1 rfl) ?_
  refine x_cvz X hw [iV a1] [] (c_M_isThread l G ad hI σ a1 hV) (cwV 1 X.2.2.2.2 gX8_link_X8_isThread rfl rfl rfl hd_M_isThread ⟨x_fr hR.1 rfl, x_fr hR.2 rfl⟩) lm0 cX8 rfl hl.1 rfl (Nat.le_of_ble_eq_true rfl) dX8_link_2 ⟨Nat.zero_le _, Nat.zero_le _⟩ (fun r2 σ1 H locs hr2 hV hw => ?_)
  refine x_if_eq X rfl 21 dX8_link_5 (by decide) (fun hc => ?_) (fun hc => ?_)
  · replace hV := hV.1 hc
    refine x_aload_n X dX8_link_21 rfl (lv_at hl 0 rfl) ?_
    refine x_ldc X (-1000000001) n_M_link_0 (by decide) dX8_link_22 ?_
    refine x_cvi X hw [iV (-1000000001)] [] (c_M_errs l G ad hI σ1 (-1000000001) hV) (cwV 1 X.2.2.2.2 gX8_link_X8_errs rfl rfl rfl hd_M_errs ⟨x_fr hR.1 rfl, x_fr hR.2 rfl⟩) lm0 cX8 rfl hl.1 rfl (Nat.le_of_ble_eq_true rfl) dX8_link_24 ⟨Nat.zero_le _, Nat.zero_le _⟩ (fun r4 σ3 H locs hV hw => ?_)
    exact hret r4 σ3 H locs ls 27 hV hw dX8_link_27
  · replace hV := hV.2 hc
    refine x_aload_n X dX8_link_8 rfl (lv_at hl 0 rfl) ?_
    refine x_iload_n X dX8_link_9 rfl (lv_at hl 2 rfl) ?_
    refine x_cvz X hw [iV a2] [] (c_M_isThread l G ad hI σ1 a2 hV) (cwV 1 X.2.2.2.2 gX8_link_X8_isThread rfl rfl rfl hd_M_isThread ⟨x_fr hR.1 rfl, x_fr hR.2 rfl⟩) lm0 cX8 rfl hl.1 rfl (Nat.le_of_ble_eq_true rfl) dX8_link_10 ⟨Nat.zero_le _, Nat.zero_le _⟩ (fun r6 σ5 H locs hr6 hV hw => ?_)
    refine x_if_eq X rfl 21 dX8_link_13 (by decide) (fun hc => ?_) (fun hc => ?_)
    · replace hV := hV.1 hc
      refine x_aload_n X dX8_link_21 rfl (lv_at hl 0 rfl) ?_
      refine x_ldc X (-1000000001) n_M_link_0 (by decide) dX8_link_22 ?_
      refine x_cvi X hw [iV (-1000000001)] [] (c_M_errs l G ad hI σ5 (-1000000001) hV) (cwV 1 X.2.2.2.2 gX8_link_X8_errs rfl rfl rfl hd_M_errs ⟨x_fr hR.1 rfl, x_fr hR.2 rfl⟩) lm0 cX8 rfl hl.1 rfl (Nat.le_of_ble_eq_true rfl) dX8_link_24 ⟨Nat.zero_le _, Nat.zero_le _⟩ (fun r8 σ7 H locs hV hw => ?_)
      exact hret r8 σ7 H locs ls 27 hV hw dX8_link_27
    · replace hV := hV.2 hc
      refine x_iload_n X dX8_link_16 rfl (lv_at hl 1 rfl) ?_
      refine x_iload_n X dX8_link_17 rfl (lv_at hl 2 rfl) ?_
      refine x_icmp_ne X rfl rfl 28 dX8_link_18 (by decide) (fun hc => ?_) (fun hc => ?_)
      · replace hV := hV.1 hc
        refine x_aload_n X dX8_link_28 rfl (lv_at hl 0 rfl) ?_
        refine x_aload_n X dX8_link_29 rfl (lv_at hl 0 rfl) ?_
        refine x_geti X hw lm0 cX8 5 (by decide) rfl n_M_link_2 n_M_link_1 dX8_link_30 ?_
        refine x_cvv X hw [iV (σ5 0 5)] [] (c_M_first l G ad hI σ5 (σ5 0 5) hV) (cwV 1 X.2.2.2.2 gX8_link_X8_first rfl rfl rfl hd_M_first ⟨x_fr hR.1 rfl, x_fr hR.2 rfl⟩) lm0 cX8 rfl hl.1 rfl (Nat.le_of_ble_eq_true rfl) dX8_link_33 ⟨Nat.zero_le _, Nat.zero_le _⟩ (fun σ9 H locs hV hw => ?_)
        refine x_iconst X dX8_link_36 ?_
        refine x_istore_n X [(3, iV 0), (0, .ref (ad 0)), (1, iV a1), (2, iV a2)] dX8_link_37 rfl hl (by decide) rfl (fun ls hl => ?_)
        refine x_iconst X dX8_link_38 ?_
        refine x_istore X [(4, iV 0), (3, iV 0), (0, .ref (ad 0)), (1, iV a1), (2, iV a2)] dX8_link_39 hl (by decide) rfl (fun ls hl => ?_)
        refine WL2.use (Gl := fun x4_10 x3_11 σ12 => ∀ (H : Heap) (locs : List Loc) (ls : Array Slot), Wx vwCl G LM ad s H locs σ12 → lv_has ls 5 [(4, iV x4_10), (3, iV x3_11), (0, .ref (ad 0)), (1, iV a1), (2, iV a2)] → W p l e R s m args below meth c H locs 0 0 QQ (F0 m 41 ls [])) ?_ hV H locs ls hw hl
        clear hV hw hl H locs ls
        intro bk13 x4_10 x3_11 σ12 hbk13 hV H locs ls hw hl
        refine x_iload X dX8_link_41 (lv_at hl 0 rfl) ?_
        refine x_aload_n X dX8_link_43 rfl (lv_at hl 2 rfl) ?_
        refine x_geti X hw lm0 cX8 15 (by decide) rfl n_M_link_2 n_M_link_3 dX8_link_44 ?_
        refine x_icmp_ge X rfl rfl 106 dX8_link_47 (by decide) (fun hc => ?_) (fun hc => ?_)
        · replace hV := hV.1 hc
          refine x_iload_n X dX8_link_106 rfl (lv_at hl 1 rfl) ?_
          exact hret x3_11 σ12 H locs ls 107 hV hw dX8_link_107
        · replace hV := hV.2 hc
          refine x_aload_n X dX8_link_50 rfl (lv_at hl 2 rfl) ?_
          refine x_getr X hw lm0 cX8 18 (by decide) rfl n_M_link_2 n_M_link_4 dX8_link_51 ?_
          refine x_iload X dX8_link_54 (lv_at hl 0 rfl) ?_
          obtain ⟨hi, hV⟩ := hV
          refine x_iald X hw lm15 rfl rfl hi dX8_link_56 ?_
          refine x_iload_n X dX8_link_57 rfl (lv_at hl 3 rfl) ?_
          have hJ75 : ∀ (x3_14 : Int) (σ15 : St) (H : Heap) (locs : List Loc) (ls : Array Slot), J_M_link_75 a1 a2 x4_10 bk13 x3_14 σ15 → Wx vwCl G LM ad s H locs σ15 → lv_has ls 5 [(4, iV x4_10), (3, iV x3_14), (0, .ref (ad 0)), (1, iV a1), (2, iV a2)] → W p l e R s m args below meth c H locs 0 0 QQ (F0 m 75 ls []) := by
            intro x3_14 σ15 H locs ls hV hw hl
            unfold J_M_link_75 at hV
            refine x_aload_n X dX8_link_75 rfl (lv_at hl 2 rfl) ?_
            refine x_getr X hw lm0 cX8 18 (by decide) rfl n_M_link_2 n_M_link_4 dX8_link_76 ?_
            refine x_iload X dX8_link_79 (lv_at hl 0 rfl) ?_
            obtain ⟨hi, hV⟩ := hV
            refine x_iald X hw lm15 rfl rfl hi dX8_link_81 ?_
            refine x_iload_n X dX8_link_82 rfl (lv_at hl 4 rfl) ?_
            refine x_icmp_ne X rfl rfl 100 dX8_link_83 (by decide) (fun hc => ?_) (fun hc => ?_)
            · replace hV := hV.1 hc
              refine x_iinc X (k := 0) (x4_10 + 1) [(4, iV (x4_10 + 1)), (3, iV x3_14), (0, .ref (ad 0)), (1, iV a1), (2, iV a2)] dX8_link_100 hl rfl rfl (by decide) rfl (fun ls hl => ?_)
              refine x_goto X 41 dX8_link_103 (by decide) ?_
              exact hbk13 (x4_10 + 1) x3_14 σ15 hV H locs ls hw hl
            · replace hV := hV.2 hc
              refine x_aload_n X dX8_link_86 rfl (lv_at hl 2 rfl) ?_
              refine x_getr X hw lm0 cX8 19 (by decide) rfl n_M_link_2 n_M_link_5 dX8_link_87 ?_
              refine x_iload X dX8_link_90 (lv_at hl 0 rfl) ?_
              obtain ⟨hi, hV⟩ := hV
              refine x_iald X hw lm16 rfl rfl hi dX8_link_92 ?_
              refine x_iload_n X dX8_link_93 rfl (lv_at hl 3 rfl) ?_
              refine x_icmp_ne X rfl rfl 100 dX8_link_94 (by decide) (fun hc => ?_) (fun hc => ?_)
              · replace hV := hV.1 hc
                refine x_iinc X (k := 0) (x4_10 + 1) [(4, iV (x4_10 + 1)), (3, iV x3_14), (0, .ref (ad 0)), (1, iV a1), (2, iV a2)] dX8_link_100 hl rfl rfl (by decide) rfl (fun ls hl => ?_)
                refine x_goto X 41 dX8_link_103 (by decide) ?_
                exact hbk13 (x4_10 + 1) x3_14 σ15 hV H locs ls hw hl
              · replace hV := hV.2 hc
                refine x_iinc X (k := 1) (x3_14 + (-1)) [(3, iV (x3_14 + (-1))), (4, iV x4_10), (0, .ref (ad 0)), (1, iV a1), (2, iV a2)] dX8_link_97 hl rfl rfl (by decide) rfl (fun ls hl => ?_)
                refine x_iinc X (k := 1) (x4_10 + 1) [(4, iV (x4_10 + 1)), (3, iV (x3_14 + (-1))), (0, .ref (ad 0)), (1, iV a1), (2, iV a2)] dX8_link_100 hl rfl rfl (by decide) rfl (fun ls hl => ?_)
                refine x_goto X 41 dX8_link_103 (by decide) ?_
                exact hbk13 (x4_10 + 1) (x3_14 + (-1)) σ15 hV H locs ls hw hl
          refine x_icmp_ne X rfl rfl 75 dX8_link_58 (by decide) (fun hc => ?_) (fun hc => ?_)
          · replace hV := hV.1 hc
            exact hJ75 x3_11 σ12 H locs ls hV hw hl
          · replace hV := hV.2 hc
            refine x_aload_n X dX8_link_61 rfl (lv_at hl 2 rfl) ?_
            refine x_getr X hw lm0 cX8 19 (by decide) rfl n_M_link_2 n_M_link_5 dX8_link_62 ?_
            refine x_iload X dX8_link_65 (lv_at hl 0 rfl) ?_
            obtain ⟨hi, hV⟩ := hV
            refine x_iald X hw lm16 rfl rfl hi dX8_link_67 ?_
            refine x_iload_n X dX8_link_68 rfl (lv_at hl 4 rfl) ?_
            refine x_icmp_ne X rfl rfl 75 dX8_link_69 (by decide) (fun hc => ?_) (fun hc => ?_)
            · replace hV := hV.1 hc
              exact hJ75 x3_11 σ12 H locs ls hV hw hl
            · replace hV := hV.2 hc
              refine x_iinc X (k := 1) (x3_11 + 1) [(3, iV (x3_11 + 1)), (4, iV x4_10), (0, .ref (ad 0)), (1, iV a1), (2, iV a2)] dX8_link_72 hl rfl rfl (by decide) rfl (fun ls hl => ?_)
              exact hJ75 (x3_11 + 1) σ12 H locs ls hV hw (lv_sub hl [1, 0, 2, 3, 4] rfl)
      · replace hV := hV.2 hc
        refine x_aload_n X dX8_link_21 rfl (lv_at hl 0 rfl) ?_
        refine x_ldc X (-1000000001) n_M_link_0 (by decide) dX8_link_22 ?_
        refine x_cvi X hw [iV (-1000000001)] [] (c_M_errs l G ad hI σ5 (-1000000001) hV) (cwV 1 X.2.2.2.2 gX8_link_X8_errs rfl rfl rfl hd_M_errs ⟨x_fr hR.1 rfl, x_fr hR.2 rfl⟩) lm0 cX8 rfl hl.1 rfl (Nat.le_of_ble_eq_true rfl) dX8_link_24 ⟨Nat.zero_le _, Nat.zero_le _⟩ (fun r17 σ16 H locs hV hw => ?_)
        exact hret r17 σ16 H locs ls 27 hV hw dX8_link_27
