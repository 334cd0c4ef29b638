-- CONSTRUCTORS: rows and fields alone
theorem fitsX0 : ∀ j, j < 8 → defaultValue (tyX0 j) = vp_V (([.inr false, .inr false, .inl 0, .inl 0, .inl 0, .inl 0, .inl 0, .inl 0] : List (Nat ⊕ Bool)).mapIdx (fun (_ : Nat) q => fV (fun _ => 0) q 0)) j := fun j hj => by
  match j, hj with
  | 0, _ => rfl
  | 1, _ => rfl
  | 2, _ => rfl
  | 3, _ => rfl
  | 4, _ => rfl
  | 5, _ => rfl
  | 6, _ => rfl
  | 7, _ => rfl
  | n + 8, h => exact absurd h (by omega)
theorem fitsX1 : ∀ j, j < 3 → defaultValue (tyX1 j) = vp_V (([.inr false, .inl 0, .inl 0] : List (Nat ⊕ Bool)).mapIdx (fun (_ : Nat) q => fV (fun _ => 0) q 0)) j := fun j hj => by
  match j, hj with
  | 0, _ => rfl
  | 1, _ => rfl
  | 2, _ => rfl
  | n + 3, h => exact absurd h (by omega)
theorem fitsX2 : ∀ j, j < 7 → defaultValue (tyX2 j) = vp_V (([.inr false, .inl 0, .inl 0, .inl 0, .inl 0, .inl 0, .inr false] : List (Nat ⊕ Bool)).mapIdx (fun (_ : Nat) q => fV (fun _ => 0) q 0)) j := fun j hj => by
  match j, hj with
  | 0, _ => rfl
  | 1, _ => rfl
  | 2, _ => rfl
  | 3, _ => rfl
  | 4, _ => rfl
  | 5, _ => rfl
  | 6, _ => rfl
  | n + 7, h => exact absurd h (by omega)
theorem fitsX3 : ∀ j, j < 3 → defaultValue (tyX3 j) = vp_V (([.inr false, .inr false, .inl 0] : List (Nat ⊕ Bool)).mapIdx (fun (_ : Nat) q => fV (fun _ => 0) q 0)) j := fun j hj => by
  match j, hj with
  | 0, _ => rfl
  | 1, _ => rfl
  | 2, _ => rfl
  | n + 3, h => exact absurd h (by omega)
theorem fitsX4 : ∀ j, j < 2 → defaultValue (tyX4 j) = vp_V (([.inl 0, .inr false] : List (Nat ⊕ Bool)).mapIdx (fun (_ : Nat) q => fV (fun _ => 0) q 0)) j := fun j hj => by
  match j, hj with
  | 0, _ => rfl
  | 1, _ => rfl
  | n + 2, h => exact absurd h (by omega)
theorem fitsX5 : ∀ j, j < 6 → defaultValue (tyX5 j) = vp_V (([.inr false, .inl 0, .inl 0, .inl 0, .inl 0, .inl 0] : List (Nat ⊕ Bool)).mapIdx (fun (_ : Nat) q => fV (fun _ => 0) q 0)) j := fun j hj => by
  match j, hj with
  | 0, _ => rfl
  | 1, _ => rfl
  | 2, _ => rfl
  | 3, _ => rfl
  | 4, _ => rfl
  | 5, _ => rfl
  | n + 6, h => exact absurd h (by omega)
theorem fitsX6 : ∀ j, j < 10 → defaultValue (tyX6 j) = vp_V (([.inl 0, .inl 0, .inl 0, .inl 0, .inl 0, .inl 0, .inl 0, .inl 0, .inl 0, .inr false] : List (Nat ⊕ Bool)).mapIdx (fun (_ : Nat) q => fV (fun _ => 0) q 0)) j := fun j hj => by
  match j, hj with
  | 0, _ => rfl
  | 1, _ => rfl
  | 2, _ => rfl
  | 3, _ => rfl
  | 4, _ => rfl
  | 5, _ => rfl
  | 6, _ => rfl
  | 7, _ => rfl
  | 8, _ => rfl
  | 9, _ => rfl
  | n + 10, h => exact absurd h (by omega)
theorem fitsX7 : ∀ j, j < 13 → defaultValue (tyX7 j) = vp_V (([.inl 0, .inl 0, .inl 0, .inr false, .inl 0, .inl 0, .inl 0, .inl 0, .inr false, .inr true, .inl 0, .inl 0, .inl 0] : List (Nat ⊕ Bool)).mapIdx (fun (_ : Nat) q => fV (fun _ => 0) q 0)) j := fun j hj => by
  match j, hj with
  | 0, _ => rfl
  | 1, _ => rfl
  | 2, _ => rfl
  | 3, _ => rfl
  | 4, _ => rfl
  | 5, _ => rfl
  | 6, _ => rfl
  | 7, _ => rfl
  | 8, _ => rfl
  | 9, _ => rfl
  | 10, _ => rfl
  | 11, _ => rfl
  | 12, _ => rfl
  | n + 13, h => exact absurd h (by omega)
theorem fitsX8 : ∀ j, j < 33 → defaultValue (tyX8 j) = vp_V (([.inl 0, .inl 0, .inl 0, .inr false, .inl 0, .inr false, .inl 0, .inl 0, .inl 0, .inl 0, .inl 0, .inl 0, .inr false, .inl 0, .inl 0, .inr false, .inl 0, .inl 0, .inl 0, .inl 0, .inl 0, .inr false, .inl 0, .inl 0, .inl 0, .inl 0, .inr true, .inl 0, .inl 0, .inl 0, .inl 0, .inl 0, .inl 0] : List (Nat ⊕ Bool)).mapIdx (fun (_ : Nat) q => fV (fun _ => 0) q 0)) j := fun j hj => by
  match j, hj with
  | 0, _ => rfl
  | 1, _ => rfl
  | 2, _ => rfl
  | 3, _ => rfl
  | 4, _ => rfl
  | 5, _ => rfl
  | 6, _ => rfl
  | 7, _ => rfl
  | 8, _ => rfl
  | 9, _ => rfl
  | 10, _ => rfl
  | 11, _ => rfl
  | 12, _ => rfl
  | 13, _ => rfl
  | 14, _ => rfl
  | 15, _ => rfl
  | 16, _ => rfl
  | 17, _ => rfl
  | 18, _ => rfl
  | 19, _ => rfl
  | 20, _ => rfl
  | 21, _ => rfl
  | 22, _ => rfl
  | 23, _ => rfl
  | 24, _ => rfl
  | 25, _ => rfl
  | 26, _ => rfl
  | 27, _ => rfl
  | 28, _ => rfl
  | 29, _ => rfl
  | 30, _ => rfl
  | 31, _ => rfl
  | 32, _ => rfl
  | n + 33, h => exact absurd h (by omega)
theorem kX1_init_0 : Cond.methodLink RX1 3 objectInit ∈ wsX1_init := by decide +kernel
theorem kX1_init_1 : Cond.instanceMethod objectInit ∈ wsX1_init := by decide +kernel
theorem kX1_init_2 : Cond.code objectInit ⟨#[0xb1]⟩ 1 none ∈ wsX1_init := by decide +kernel
theorem kX1_init_3 : ∀ w ∈ wsX10, w ∈ wsX1_init := by decide +kernel
theorem kX1_init_4 : Cond.fieldLink RX1 9 "LacePillow$Heap" "size" "I" ∈ wsX1_init := by decide +kernel
theorem kX1_init_5 : Cond.arrayClass .int ∈ wsX1_init := by decide +kernel
theorem kX1_init_6 : Cond.fieldLink RX1 15 "LacePillow$Heap" "signs" "[I" ∈ wsX1_init := by decide +kernel
theorem kX1_init_7 : Cond.fieldLink RX1 19 "LacePillow$Heap" "tops" "[I" ∈ wsX1_init := by decide +kernel
def LX1 : List LC := [.inr (.inr (1, [.inr false, .inl 1, .inl 2])), .inl (false, 1440), .inl (false, 17)]
def PX1 (u : St) : Prop := u 0 0 = 0 ∧ (∀ i, u 1 i = 0) ∧ ∀ i, 0 ≤ i → i < 17 → u 2 i = -1
set_option maxHeartbeats 4000000 in
set_option maxRecDepth 100000 in
theorem c_Heap_init (l : Launch) (G : GT) (h0 sz : Nat) : Met l yX1_init wsX1_init (rmc 1 23 2 1457) (Kp vwCl G (.inr (.inr (1, [.inr false, .inl 0, .inl 0]))) (fun _ => True) h0 sz) (Kq vwCl G LX1 PX1 h0 sz) 2 1457 (Af h0 sz) := by
  refine x_metc (own := RX1) (by decide) rfl rfl rfl (by decide) (by decide) ?_
  intro p e s m args below meth c R QQ A X hin2 hR hA hA2 hZ hret ad0 ls he0 hl hw
  obtain ⟨H, hH⟩ : ∃ z, z = s.heap := ⟨_, rfl⟩
  obtain ⟨locs, hlo⟩ : ∃ z : List Loc, z = [] := ⟨_, rfl⟩
  rw [← hH, ← hlo]
  obtain ⟨σ0, hs0⟩ : ∃ z : St, z = fun _ _ => 0 := ⟨_, rfl⟩
  replace hw : Wy vwCl G [.inr (.inr (1, [.inr false, .inl 0, .inl 0]))] ad0 A s H locs σ0 := by rw [hH, hlo, hs0]; exact hw
  clear hH hlo
  refine x_aload_n X dX1_init_0 rfl (lv_at hl 0 rfl) ?_
  refine x_obj X hl.1 kX1_init_0 kX1_init_1 kX1_init_2 (x_fr hR.1.1 rfl) (x_fr hR.1.2 rfl) dX1_init_1 ?_
  refine x_aload_n X dX1_init_4 rfl (lv_at hl 0 rfl) ?_
  refine x_iconst X dX1_init_5 ?_
  refine x_puti X hw (o := 0) rfl cX1 0 (by decide) rfl kX1_init_3 kX1_init_4 tyX1 tyX1_ok nmX1 rfl rfl rfl dX1_init_6 (fun H locs σ1 hs1 hw => ?_)
  refine x_aload_n X dX1_init_9 rfl (lv_at hl 0 rfl) ?_
  refine x_sipush X dX1_init_10 (by decide) ?_
  refine x_newi X hw hA (by decide) kX1_init_5 1440 (by decide +kernel) rfl (x_fr hR.2.1 rfl) (x_fr hR.2.2 rfl) dX1_init_13 (fun ad2 H e2 hw => ?_)
  rw [← e2 0 (by decide)] at hl
  rw [← e2 0 (by decide)]
  replace he0 : ad2 0 = h0 := (e2 0 (by decide)).trans he0
  obtain ⟨σ2, hs2⟩ : ∃ z, z = sf σ1 1 (fun _ => 0) := ⟨_, rfl⟩
  replace hw : Wy vwCl G [.inr (.inr (1, [.inr false, .inl 0, .inl 0])), .inl (false, 1440)] ad2 A s H locs σ2 := by rw [hs2]; exact hw
  refine x_putr X hw (o := 0) rfl cX1 1 (by decide) (by decide) 0 kX1_init_3 kX1_init_6 tyX1 tyX1_ok nmX1 rfl hin2 rfl (fun _ => rfl) (fun _ => rfl) dX1_init_15 (fun H locs hw => ?_)
  replace hw : Wy vwCl G [.inr (.inr (1, [.inr false, .inl 1, .inl 0])), .inl (false, 1440)] ad2 A s H locs σ2 := hw
  refine x_aload_n X dX1_init_18 rfl (lv_at hl 0 rfl) ?_
  refine x_bipush X dX1_init_19 (by decide) ?_
  refine x_newi X hw hA (by decide) kX1_init_5 17 (by decide +kernel) rfl (x_fr hR.2.1 rfl) (x_fr hR.2.2 rfl) dX1_init_21 (fun ad3 H e3 hw => ?_)
  rw [← e3 0 (by decide)] at hl
  rw [← e3 0 (by decide)]
  replace he0 : ad3 0 = h0 := (e3 0 (by decide)).trans he0
  obtain ⟨σ3, hs3⟩ : ∃ z, z = sf σ2 2 (fun _ => 0) := ⟨_, rfl⟩
  replace hw : Wy vwCl G [.inr (.inr (1, [.inr false, .inl 1, .inl 0])), .inl (false, 1440), .inl (false, 17)] ad3 A s H locs σ3 := by rw [hs3]; exact hw
  refine x_putr X hw (o := 0) rfl cX1 2 (by decide) (by decide) 1 kX1_init_3 kX1_init_7 tyX1 tyX1_ok nmX1 rfl hin2 rfl (fun _ => rfl) (fun _ => rfl) dX1_init_23 (fun H locs hw => ?_)
  replace hw : Wy vwCl G [.inr (.inr (1, [.inr false, .inl 1, .inl 2])), .inl (false, 1440), .inl (false, 17)] ad3 A s H locs σ3 := hw
  refine x_aload_n X dX1_init_26 rfl (lv_at hl 0 rfl) ?_
  refine x_getr X hw (o := 0) rfl cX1 2 (by decide) (k0 := 1) rfl kX1_init_3 kX1_init_7 dX1_init_27 ?_
  refine x_iconst X dX1_init_30 ?_
  refine x_csv X hw [.ref (ad3 2), iV (-1)] [] (c_fillI l G ad3 hw.2.1.1 2 17 rfl σ3 (-1) (Q := fun u => u = sf σ3 2 (fun i => if 0 ≤ i ∧ i < 17 then -1 else σ3 2 i)) (fillI_ok (by decide) rfl)) (va_cwS 2 X.2.2.2.2 gX1_init_J7_fill_53178 rfl rfl rfl hd_fillI ⟨x_fr hR.1.1 rfl, x_fr hR.1.2 rfl⟩) rfl hl.1 rfl (Nat.le_of_ble_eq_true rfl) dX1_init_31 ⟨x_fr hR.2.1 rfl, x_fr hR.2.2 rfl⟩ (fun σ4 H locs hs4 hw => ?_)
  exact hret ad3 σ4 H locs ls 34 he0 (by rw [hs4, hs3, hs2, hs1, hs0]; exact ⟨rfl, fun _ => rfl, fun i h1 h2 => if_pos ⟨h1, h2⟩⟩) hw dX1_init_34
theorem kX0_init_0 : Cond.methodLink RX0 3 objectInit ∈ wsX0_init := by decide +kernel
theorem kX0_init_1 : Cond.instanceMethod objectInit ∈ wsX0_init := by decide +kernel
theorem kX0_init_2 : Cond.code objectInit ⟨#[0xb1]⟩ 1 none ∈ wsX0_init := by decide +kernel
theorem kX0_init_3 : ∀ w ∈ wsX00, w ∈ wsX0_init := by decide +kernel
theorem kX0_init_4 : Cond.fieldLink RX0 9 "LacePillow$Ground" "size" "I" ∈ wsX0_init := by decide +kernel
theorem kX0_init_5 : Cond.fieldLink RX0 15 "LacePillow$Ground" "deep" "I" ∈ wsX0_init := by decide +kernel
theorem kX0_init_6 : Cond.arrayClass .int ∈ wsX0_init := by decide +kernel
theorem kX0_init_7 : Cond.fieldLink RX0 18 "LacePillow$Ground" "rows" "[I" ∈ wsX0_init := by decide +kernel
theorem kX0_init_8 : Cond.fieldLink RX0 22 "LacePillow$Ground" "gaps" "[I" ∈ wsX0_init := by decide +kernel
theorem kX0_init_9 : Cond.fieldLink RX0 25 "LacePillow$Ground" "kinds" "[I" ∈ wsX0_init := by decide +kernel
theorem kX0_init_10 : Cond.fieldLink RX0 28 "LacePillow$Ground" "levels" "[I" ∈ wsX0_init := by decide +kernel
theorem kX0_init_11 : Cond.arrayClass .long ∈ wsX0_init := by decide +kernel
theorem kX0_init_12 : Cond.fieldLink RX0 31 "LacePillow$Ground" "before" "[J" ∈ wsX0_init := by decide +kernel
theorem kX0_init_13 : Cond.fieldLink RX0 35 "LacePillow$Ground" "wides" "[I" ∈ wsX0_init := by decide +kernel
def LX0 : List LC := [.inr (.inr (0, [.inr false, .inr false, .inl 1, .inl 2, .inl 3, .inl 4, .inl 5, .inl 6])), .inl (false, 48), .inl (false, 48), .inl (false, 48), .inl (false, 48), .inl (true, 48), .inl (false, 48)]
def PX0 (u : St) : Prop := u 0 0 = 0 ∧ u 0 1 = 0
set_option maxHeartbeats 4000000 in
set_option maxRecDepth 100000 in
theorem c_Ground_init (l : Launch) (G : GT) (h0 sz : Nat) : Met l yX0_init wsX0_init (rmc 1 12 6 288) (Kp vwCl G (.inr (.inr (0, [.inr false, .inr false, .inl 0, .inl 0, .inl 0, .inl 0, .inl 0, .inl 0]))) (fun _ => True) h0 sz) (Kq vwCl G LX0 PX0 h0 sz) 6 288 (Af h0 sz) := by
  refine x_metc (own := RX0) (by decide) rfl rfl rfl (by decide) (by decide) ?_
  intro p e s m args below meth c R QQ A X hin2 hR hA hA2 hZ hret ad0 ls he0 hl hw
  obtain ⟨H, hH⟩ : ∃ z, z = s.heap := ⟨_, rfl⟩
  obtain ⟨locs, hlo⟩ : ∃ z : List Loc, z = [] := ⟨_, rfl⟩
  rw [← hH, ← hlo]
  obtain ⟨σ0, hs0⟩ : ∃ z : St, z = fun _ _ => 0 := ⟨_, rfl⟩
  replace hw : Wy vwCl G [.inr (.inr (0, [.inr false, .inr false, .inl 0, .inl 0, .inl 0, .inl 0, .inl 0, .inl 0]))] ad0 A s H locs σ0 := by rw [hH, hlo, hs0]; exact hw
  clear hH hlo
  refine x_aload_n X dX0_init_0 rfl (lv_at hl 0 rfl) ?_
  refine x_obj X hl.1 kX0_init_0 kX0_init_1 kX0_init_2 (x_fr hR.1.1 rfl) (x_fr hR.1.2 rfl) dX0_init_1 ?_
  refine x_aload_n X dX0_init_4 rfl (lv_at hl 0 rfl) ?_
  refine x_iconst X dX0_init_5 ?_
  refine x_puti X hw (o := 0) rfl cX0 0 (by decide) rfl kX0_init_3 kX0_init_4 tyX0 tyX0_ok nmX0 rfl rfl rfl dX0_init_6 (fun H locs σ1 hs1 hw => ?_)
  refine x_aload_n X dX0_init_9 rfl (lv_at hl 0 rfl) ?_
  refine x_iconst X dX0_init_10 ?_
  refine x_puti X hw (o := 0) rfl cX0 1 (by decide) rfl kX0_init_3 kX0_init_5 tyX0 tyX0_ok nmX0 rfl rfl rfl dX0_init_11 (fun H locs σ2 hs2 hw => ?_)
  refine x_aload_n X dX0_init_14 rfl (lv_at hl 0 rfl) ?_
  refine x_bipush X dX0_init_15 (by decide) ?_
  refine x_newi X hw hA (by decide) kX0_init_6 48 (by decide +kernel) rfl (x_fr hR.2.1 rfl) (x_fr hR.2.2 rfl) dX0_init_17 (fun ad3 H e3 hw => ?_)
  rw [← e3 0 (by decide)] at hl
  rw [← e3 0 (by decide)]
  replace he0 : ad3 0 = h0 := (e3 0 (by decide)).trans he0
  obtain ⟨σ3, hs3⟩ : ∃ z, z = sf σ2 1 (fun _ => 0) := ⟨_, rfl⟩
  replace hw : Wy vwCl G [.inr (.inr (0, [.inr false, .inr false, .inl 0, .inl 0, .inl 0, .inl 0, .inl 0, .inl 0])), .inl (false, 48)] ad3 A s H locs σ3 := by rw [hs3]; exact hw
  refine x_putr X hw (o := 0) rfl cX0 2 (by decide) (by decide) 0 kX0_init_3 kX0_init_7 tyX0 tyX0_ok nmX0 rfl hin2 rfl (fun _ => rfl) (fun _ => rfl) dX0_init_19 (fun H locs hw => ?_)
  replace hw : Wy vwCl G [.inr (.inr (0, [.inr false, .inr false, .inl 1, .inl 0, .inl 0, .inl 0, .inl 0, .inl 0])), .inl (false, 48)] ad3 A s H locs σ3 := hw
  refine x_aload_n X dX0_init_22 rfl (lv_at hl 0 rfl) ?_
  refine x_bipush X dX0_init_23 (by decide) ?_
  refine x_newi X hw hA (by decide) kX0_init_6 48 (by decide +kernel) rfl (x_fr hR.2.1 rfl) (x_fr hR.2.2 rfl) dX0_init_25 (fun ad4 H e4 hw => ?_)
  rw [← e4 0 (by decide)] at hl
  rw [← e4 0 (by decide)]
  replace he0 : ad4 0 = h0 := (e4 0 (by decide)).trans he0
  obtain ⟨σ4, hs4⟩ : ∃ z, z = sf σ3 2 (fun _ => 0) := ⟨_, rfl⟩
  replace hw : Wy vwCl G [.inr (.inr (0, [.inr false, .inr false, .inl 1, .inl 0, .inl 0, .inl 0, .inl 0, .inl 0])), .inl (false, 48), .inl (false, 48)] ad4 A s H locs σ4 := by rw [hs4]; exact hw
  refine x_putr X hw (o := 0) rfl cX0 3 (by decide) (by decide) 1 kX0_init_3 kX0_init_8 tyX0 tyX0_ok nmX0 rfl hin2 rfl (fun _ => rfl) (fun _ => rfl) dX0_init_27 (fun H locs hw => ?_)
  replace hw : Wy vwCl G [.inr (.inr (0, [.inr false, .inr false, .inl 1, .inl 2, .inl 0, .inl 0, .inl 0, .inl 0])), .inl (false, 48), .inl (false, 48)] ad4 A s H locs σ4 := hw
  refine x_aload_n X dX0_init_30 rfl (lv_at hl 0 rfl) ?_
  refine x_bipush X dX0_init_31 (by decide) ?_
  refine x_newi X hw hA (by decide) kX0_init_6 48 (by decide +kernel) rfl (x_fr hR.2.1 rfl) (x_fr hR.2.2 rfl) dX0_init_33 (fun ad5 H e5 hw => ?_)
  rw [← e5 0 (by decide)] at hl
  rw [← e5 0 (by decide)]
  replace he0 : ad5 0 = h0 := (e5 0 (by decide)).trans he0
  obtain ⟨σ5, hs5⟩ : ∃ z, z = sf σ4 3 (fun _ => 0) := ⟨_, rfl⟩
  replace hw : Wy vwCl G [.inr (.inr (0, [.inr false, .inr false, .inl 1, .inl 2, .inl 0, .inl 0, .inl 0, .inl 0])), .inl (false, 48), .inl (false, 48), .inl (false, 48)] ad5 A s H locs σ5 := by rw [hs5]; exact hw
  refine x_putr X hw (o := 0) rfl cX0 4 (by decide) (by decide) 2 kX0_init_3 kX0_init_9 tyX0 tyX0_ok nmX0 rfl hin2 rfl (fun _ => rfl) (fun _ => rfl) dX0_init_35 (fun H locs hw => ?_)
  replace hw : Wy vwCl G [.inr (.inr (0, [.inr false, .inr false, .inl 1, .inl 2, .inl 3, .inl 0, .inl 0, .inl 0])), .inl (false, 48), .inl (false, 48), .inl (false, 48)] ad5 A s H locs σ5 := hw
  refine x_aload_n X dX0_init_38 rfl (lv_at hl 0 rfl) ?_
  refine x_bipush X dX0_init_39 (by decide) ?_
  refine x_newi X hw hA (by decide) kX0_init_6 48 (by decide +kernel) rfl (x_fr hR.2.1 rfl) (x_fr hR.2.2 rfl) dX0_init_41 (fun ad6 H e6 hw => ?_)
  rw [← e6 0 (by decide)] at hl
  rw [← e6 0 (by decide)]
  replace he0 : ad6 0 = h0 := (e6 0 (by decide)).trans he0
  obtain ⟨σ6, hs6⟩ : ∃ z, z = sf σ5 4 (fun _ => 0) := ⟨_, rfl⟩
  replace hw : Wy vwCl G [.inr (.inr (0, [.inr false, .inr false, .inl 1, .inl 2, .inl 3, .inl 0, .inl 0, .inl 0])), .inl (false, 48), .inl (false, 48), .inl (false, 48), .inl (false, 48)] ad6 A s H locs σ6 := by rw [hs6]; exact hw
  refine x_putr X hw (o := 0) rfl cX0 5 (by decide) (by decide) 3 kX0_init_3 kX0_init_10 tyX0 tyX0_ok nmX0 rfl hin2 rfl (fun _ => rfl) (fun _ => rfl) dX0_init_43 (fun H locs hw => ?_)
  replace hw : Wy vwCl G [.inr (.inr (0, [.inr false, .inr false, .inl 1, .inl 2, .inl 3, .inl 4, .inl 0, .inl 0])), .inl (false, 48), .inl (false, 48), .inl (false, 48), .inl (false, 48)] ad6 A s H locs σ6 := hw
  refine x_aload_n X dX0_init_46 rfl (lv_at hl 0 rfl) ?_
  refine x_bipush X dX0_init_47 (by decide) ?_
  refine x_newj X hw hA (by decide) kX0_init_11 48 (by decide +kernel) rfl (x_fr hR.2.1 rfl) (x_fr hR.2.2 rfl) dX0_init_49 (fun ad7 H e7 hw => ?_)
  rw [← e7 0 (by decide)] at hl
  rw [← e7 0 (by decide)]
  replace he0 : ad7 0 = h0 := (e7 0 (by decide)).trans he0
  obtain ⟨σ7, hs7⟩ : ∃ z, z = sf σ6 5 (fun _ => 0) := ⟨_, rfl⟩
  replace hw : Wy vwCl G [.inr (.inr (0, [.inr false, .inr false, .inl 1, .inl 2, .inl 3, .inl 4, .inl 0, .inl 0])), .inl (false, 48), .inl (false, 48), .inl (false, 48), .inl (false, 48), .inl (true, 48)] ad7 A s H locs σ7 := by rw [hs7]; exact hw
  refine x_putr X hw (o := 0) rfl cX0 6 (by decide) (by decide) 4 kX0_init_3 kX0_init_12 tyX0 tyX0_ok nmX0 rfl hin2 rfl (fun _ => rfl) (fun _ => rfl) dX0_init_51 (fun H locs hw => ?_)
  replace hw : Wy vwCl G [.inr (.inr (0, [.inr false, .inr false, .inl 1, .inl 2, .inl 3, .inl 4, .inl 5, .inl 0])), .inl (false, 48), .inl (false, 48), .inl (false, 48), .inl (false, 48), .inl (true, 48)] ad7 A s H locs σ7 := hw
  refine x_aload_n X dX0_init_54 rfl (lv_at hl 0 rfl) ?_
  refine x_bipush X dX0_init_55 (by decide) ?_
  refine x_newi X hw hA (by decide) kX0_init_6 48 (by decide +kernel) rfl (x_fr hR.2.1 rfl) (x_fr hR.2.2 rfl) dX0_init_57 (fun ad8 H e8 hw => ?_)
  rw [← e8 0 (by decide)] at hl
  rw [← e8 0 (by decide)]
  replace he0 : ad8 0 = h0 := (e8 0 (by decide)).trans he0
  obtain ⟨σ8, hs8⟩ : ∃ z, z = sf σ7 6 (fun _ => 0) := ⟨_, rfl⟩
  replace hw : Wy vwCl G [.inr (.inr (0, [.inr false, .inr false, .inl 1, .inl 2, .inl 3, .inl 4, .inl 5, .inl 0])), .inl (false, 48), .inl (false, 48), .inl (false, 48), .inl (false, 48), .inl (true, 48), .inl (false, 48)] ad8 A s H locs σ8 := by rw [hs8]; exact hw
  refine x_putr X hw (o := 0) rfl cX0 7 (by decide) (by decide) 5 kX0_init_3 kX0_init_13 tyX0 tyX0_ok nmX0 rfl hin2 rfl (fun _ => rfl) (fun _ => rfl) dX0_init_59 (fun H locs hw => ?_)
  replace hw : Wy vwCl G [.inr (.inr (0, [.inr false, .inr false, .inl 1, .inl 2, .inl 3, .inl 4, .inl 5, .inl 6])), .inl (false, 48), .inl (false, 48), .inl (false, 48), .inl (false, 48), .inl (true, 48), .inl (false, 48)] ad8 A s H locs σ8 := hw
  exact hret ad8 σ8 H locs ls 62 he0 (by rw [hs8, hs7, hs6, hs5, hs4, hs3, hs2, hs1, hs0]; exact ⟨rfl, rfl⟩) hw dX0_init_62
theorem kX5_init_0 : Cond.methodLink RX5 3 objectInit ∈ wsX5_init := by decide +kernel
theorem kX5_init_1 : Cond.instanceMethod objectInit ∈ wsX5_init := by decide +kernel
theorem kX5_init_2 : Cond.code objectInit ⟨#[0xb1]⟩ 1 none ∈ wsX5_init := by decide +kernel
theorem kX5_init_3 : ∀ w ∈ wsX50, w ∈ wsX5_init := by decide +kernel
theorem kX5_init_4 : Cond.fieldLink RX5 9 "LacePillow$Ways" "known" "Z" ∈ wsX5_init := by decide +kernel
theorem kX5_init_5 : Cond.arrayClass .long ∈ wsX5_init := by decide +kernel
theorem kX5_init_6 : Cond.fieldLink RX5 15 "LacePillow$Ways" "counts" "[J" ∈ wsX5_init := by decide +kernel
theorem kX5_init_7 : Cond.arrayClass .int ∈ wsX5_init := by decide +kernel
theorem kX5_init_8 : Cond.fieldLink RX5 19 "LacePillow$Ways" "lengths" "[I" ∈ wsX5_init := by decide +kernel
theorem kX5_init_9 : Cond.fieldLink RX5 23 "LacePillow$Ways" "strides" "[I" ∈ wsX5_init := by decide +kernel
theorem kX5_init_10 : Cond.fieldLink RX5 26 "LacePillow$Ways" "stitches" "[I" ∈ wsX5_init := by decide +kernel
theorem kX5_init_11 : Cond.fieldLink RX5 29 "LacePillow$Ways" "bits" "[J" ∈ wsX5_init := by decide +kernel
def LX5 : List LC := [.inr (.inr (5, [.inr false, .inl 1, .inl 2, .inl 3, .inl 4, .inl 5])), .inl (true, 1296), .inl (false, 4), .inl (false, 4), .inl (false, 48), .inl (true, 52)]
def PX5 (u : St) : Prop := u 0 0 = 0
set_option maxHeartbeats 4000000 in
set_option maxRecDepth 100000 in
theorem c_Ways_init (l : Launch) (G : GT) (h0 sz : Nat) : Met l yX5_init wsX5_init (rmc 1 12 5 1404) (Kp vwCl G (.inr (.inr (5, [.inr false, .inl 0, .inl 0, .inl 0, .inl 0, .inl 0]))) (fun _ => True) h0 sz) (Kq vwCl G LX5 PX5 h0 sz) 5 1404 (Af h0 sz) := by
  refine x_metc (own := RX5) (by decide) rfl rfl rfl (by decide) (by decide) ?_
  intro p e s m args below meth c R QQ A X hin2 hR hA hA2 hZ hret ad0 ls he0 hl hw
  obtain ⟨H, hH⟩ : ∃ z, z = s.heap := ⟨_, rfl⟩
  obtain ⟨locs, hlo⟩ : ∃ z : List Loc, z = [] := ⟨_, rfl⟩
  rw [← hH, ← hlo]
  obtain ⟨σ0, hs0⟩ : ∃ z : St, z = fun _ _ => 0 := ⟨_, rfl⟩
  replace hw : Wy vwCl G [.inr (.inr (5, [.inr false, .inl 0, .inl 0, .inl 0, .inl 0, .inl 0]))] ad0 A s H locs σ0 := by rw [hH, hlo, hs0]; exact hw
  clear hH hlo
  refine x_aload_n X dX5_init_0 rfl (lv_at hl 0 rfl) ?_
  refine x_obj X hl.1 kX5_init_0 kX5_init_1 kX5_init_2 (x_fr hR.1.1 rfl) (x_fr hR.1.2 rfl) dX5_init_1 ?_
  refine x_aload_n X dX5_init_4 rfl (lv_at hl 0 rfl) ?_
  refine x_iconst X dX5_init_5 ?_
  refine x_puti X hw (o := 0) rfl cX5 0 (by decide) rfl kX5_init_3 kX5_init_4 tyX5 tyX5_ok nmX5 rfl rfl rfl dX5_init_6 (fun H locs σ1 hs1 hw => ?_)
  refine x_aload_n X dX5_init_9 rfl (lv_at hl 0 rfl) ?_
  refine x_sipush X dX5_init_10 (by decide) ?_
  refine x_newj X hw hA (by decide) kX5_init_5 1296 (by decide +kernel) rfl (x_fr hR.2.1 rfl) (x_fr hR.2.2 rfl) dX5_init_13 (fun ad2 H e2 hw => ?_)
  rw [← e2 0 (by decide)] at hl
  rw [← e2 0 (by decide)]
  replace he0 : ad2 0 = h0 := (e2 0 (by decide)).trans he0
  obtain ⟨σ2, hs2⟩ : ∃ z, z = sf σ1 1 (fun _ => 0) := ⟨_, rfl⟩
  replace hw : Wy vwCl G [.inr (.inr (5, [.inr false, .inl 0, .inl 0, .inl 0, .inl 0, .inl 0])), .inl (true, 1296)] ad2 A s H locs σ2 := by rw [hs2]; exact hw
  refine x_putr X hw (o := 0) rfl cX5 1 (by decide) (by decide) 0 kX5_init_3 kX5_init_6 tyX5 tyX5_ok nmX5 rfl hin2 rfl (fun _ => rfl) (fun _ => rfl) dX5_init_15 (fun H locs hw => ?_)
  replace hw : Wy vwCl G [.inr (.inr (5, [.inr false, .inl 1, .inl 0, .inl 0, .inl 0, .inl 0])), .inl (true, 1296)] ad2 A s H locs σ2 := hw
  refine x_aload_n X dX5_init_18 rfl (lv_at hl 0 rfl) ?_
  refine x_iconst X dX5_init_19 ?_
  refine x_newi X hw hA (by decide) kX5_init_7 4 (by decide +kernel) rfl (x_fr hR.2.1 rfl) (x_fr hR.2.2 rfl) dX5_init_20 (fun ad3 H e3 hw => ?_)
  rw [← e3 0 (by decide)] at hl
  rw [← e3 0 (by decide)]
  replace he0 : ad3 0 = h0 := (e3 0 (by decide)).trans he0
  obtain ⟨σ3, hs3⟩ : ∃ z, z = sf σ2 2 (fun _ => 0) := ⟨_, rfl⟩
  replace hw : Wy vwCl G [.inr (.inr (5, [.inr false, .inl 1, .inl 0, .inl 0, .inl 0, .inl 0])), .inl (true, 1296), .inl (false, 4)] ad3 A s H locs σ3 := by rw [hs3]; exact hw
  refine x_putr X hw (o := 0) rfl cX5 2 (by decide) (by decide) 1 kX5_init_3 kX5_init_8 tyX5 tyX5_ok nmX5 rfl hin2 rfl (fun _ => rfl) (fun _ => rfl) dX5_init_22 (fun H locs hw => ?_)
  replace hw : Wy vwCl G [.inr (.inr (5, [.inr false, .inl 1, .inl 2, .inl 0, .inl 0, .inl 0])), .inl (true, 1296), .inl (false, 4)] ad3 A s H locs σ3 := hw
  refine x_aload_n X dX5_init_25 rfl (lv_at hl 0 rfl) ?_
  refine x_iconst X dX5_init_26 ?_
  refine x_newi X hw hA (by decide) kX5_init_7 4 (by decide +kernel) rfl (x_fr hR.2.1 rfl) (x_fr hR.2.2 rfl) dX5_init_27 (fun ad4 H e4 hw => ?_)
  rw [← e4 0 (by decide)] at hl
  rw [← e4 0 (by decide)]
  replace he0 : ad4 0 = h0 := (e4 0 (by decide)).trans he0
  obtain ⟨σ4, hs4⟩ : ∃ z, z = sf σ3 3 (fun _ => 0) := ⟨_, rfl⟩
  replace hw : Wy vwCl G [.inr (.inr (5, [.inr false, .inl 1, .inl 2, .inl 0, .inl 0, .inl 0])), .inl (true, 1296), .inl (false, 4), .inl (false, 4)] ad4 A s H locs σ4 := by rw [hs4]; exact hw
  refine x_putr X hw (o := 0) rfl cX5 3 (by decide) (by decide) 2 kX5_init_3 kX5_init_9 tyX5 tyX5_ok nmX5 rfl hin2 rfl (fun _ => rfl) (fun _ => rfl) dX5_init_29 (fun H locs hw => ?_)
  replace hw : Wy vwCl G [.inr (.inr (5, [.inr false, .inl 1, .inl 2, .inl 3, .inl 0, .inl 0])), .inl (true, 1296), .inl (false, 4), .inl (false, 4)] ad4 A s H locs σ4 := hw
  refine x_aload_n X dX5_init_32 rfl (lv_at hl 0 rfl) ?_
  refine x_bipush X dX5_init_33 (by decide) ?_
  refine x_newi X hw hA (by decide) kX5_init_7 48 (by decide +kernel) rfl (x_fr hR.2.1 rfl) (x_fr hR.2.2 rfl) dX5_init_35 (fun ad5 H e5 hw => ?_)
  rw [← e5 0 (by decide)] at hl
  rw [← e5 0 (by decide)]
  replace he0 : ad5 0 = h0 := (e5 0 (by decide)).trans he0
  obtain ⟨σ5, hs5⟩ : ∃ z, z = sf σ4 4 (fun _ => 0) := ⟨_, rfl⟩
  replace hw : Wy vwCl G [.inr (.inr (5, [.inr false, .inl 1, .inl 2, .inl 3, .inl 0, .inl 0])), .inl (true, 1296), .inl (false, 4), .inl (false, 4), .inl (false, 48)] ad5 A s H locs σ5 := by rw [hs5]; exact hw
  refine x_putr X hw (o := 0) rfl cX5 4 (by decide) (by decide) 3 kX5_init_3 kX5_init_10 tyX5 tyX5_ok nmX5 rfl hin2 rfl (fun _ => rfl) (fun _ => rfl) dX5_init_37 (fun H locs hw => ?_)
  replace hw : Wy vwCl G [.inr (.inr (5, [.inr false, .inl 1, .inl 2, .inl 3, .inl 4, .inl 0])), .inl (true, 1296), .inl (false, 4), .inl (false, 4), .inl (false, 48)] ad5 A s H locs σ5 := hw
  refine x_aload_n X dX5_init_40 rfl (lv_at hl 0 rfl) ?_
  refine x_bipush X dX5_init_41 (by decide) ?_
  refine x_newj X hw hA (by decide) kX5_init_5 52 (by decide +kernel) rfl (x_fr hR.2.1 rfl) (x_fr hR.2.2 rfl) dX5_init_43 (fun ad6 H e6 hw => ?_)
  rw [← e6 0 (by decide)] at hl
  rw [← e6 0 (by decide)]
  replace he0 : ad6 0 = h0 := (e6 0 (by decide)).trans he0
  obtain ⟨σ6, hs6⟩ : ∃ z, z = sf σ5 5 (fun _ => 0) := ⟨_, rfl⟩
  replace hw : Wy vwCl G [.inr (.inr (5, [.inr false, .inl 1, .inl 2, .inl 3, .inl 4, .inl 0])), .inl (true, 1296), .inl (false, 4), .inl (false, 4), .inl (false, 48), .inl (true, 52)] ad6 A s H locs σ6 := by rw [hs6]; exact hw
  refine x_putr X hw (o := 0) rfl cX5 5 (by decide) (by decide) 4 kX5_init_3 kX5_init_11 tyX5 tyX5_ok nmX5 rfl hin2 rfl (fun _ => rfl) (fun _ => rfl) dX5_init_45 (fun H locs hw => ?_)
  replace hw : Wy vwCl G [.inr (.inr (5, [.inr false, .inl 1, .inl 2, .inl 3, .inl 4, .inl 5])), .inl (true, 1296), .inl (false, 4), .inl (false, 4), .inl (false, 48), .inl (true, 52)] ad6 A s H locs σ6 := hw
  exact hret ad6 σ6 H locs ls 48 he0 (by rw [hs6, hs5, hs4, hs3, hs2, hs1, hs0]; rfl) hw dX5_init_48
theorem kX4_init_0 : Cond.methodLink RX4 3 objectInit ∈ wsX4_init := by decide +kernel
theorem kX4_init_1 : Cond.instanceMethod objectInit ∈ wsX4_init := by decide +kernel
theorem kX4_init_2 : Cond.code objectInit ⟨#[0xb1]⟩ 1 none ∈ wsX4_init := by decide +kernel
theorem kX4_init_3 : Cond.arrayClass .int ∈ wsX4_init := by decide +kernel
theorem kX4_init_4 : ∀ w ∈ wsX40, w ∈ wsX4_init := by decide +kernel
theorem kX4_init_5 : Cond.fieldLink RX4 9 "LacePillow$Tape" "bytes" "[I" ∈ wsX4_init := by decide +kernel
theorem kX4_init_6 : Cond.fieldLink RX4 15 "LacePillow$Tape" "size" "I" ∈ wsX4_init := by decide +kernel
def LX4 : List LC := [.inr (.inr (4, [.inl 1, .inr false])), .inl (false, 120)]
def PX4 (u : St) : Prop := u 0 1 = 0
set_option maxHeartbeats 4000000 in
set_option maxRecDepth 100000 in
theorem c_Tape_init (l : Launch) (G : GT) (h0 sz : Nat) : Met l yX4_init wsX4_init (rmc 1 12 1 120) (Kp vwCl G (.inr (.inr (4, [.inl 0, .inr false]))) (fun _ => True) h0 sz) (Kq vwCl G LX4 PX4 h0 sz) 1 120 (Af h0 sz) := by
  refine x_metc (own := RX4) (by decide) rfl rfl rfl (by decide) (by decide) ?_
  intro p e s m args below meth c R QQ A X hin2 hR hA hA2 hZ hret ad0 ls he0 hl hw
  obtain ⟨H, hH⟩ : ∃ z, z = s.heap := ⟨_, rfl⟩
  obtain ⟨locs, hlo⟩ : ∃ z : List Loc, z = [] := ⟨_, rfl⟩
  rw [← hH, ← hlo]
  obtain ⟨σ0, hs0⟩ : ∃ z : St, z = fun _ _ => 0 := ⟨_, rfl⟩
  replace hw : Wy vwCl G [.inr (.inr (4, [.inl 0, .inr false]))] ad0 A s H locs σ0 := by rw [hH, hlo, hs0]; exact hw
  clear hH hlo
  refine x_aload_n X dX4_init_0 rfl (lv_at hl 0 rfl) ?_
  refine x_obj X hl.1 kX4_init_0 kX4_init_1 kX4_init_2 (x_fr hR.1.1 rfl) (x_fr hR.1.2 rfl) dX4_init_1 ?_
  refine x_aload_n X dX4_init_4 rfl (lv_at hl 0 rfl) ?_
  refine x_bipush X dX4_init_5 (by decide) ?_
  refine x_newi X hw hA (by decide) kX4_init_3 120 (by decide +kernel) rfl (x_fr hR.2.1 rfl) (x_fr hR.2.2 rfl) dX4_init_7 (fun ad1 H e1 hw => ?_)
  rw [← e1 0 (by decide)] at hl
  rw [← e1 0 (by decide)]
  replace he0 : ad1 0 = h0 := (e1 0 (by decide)).trans he0
  obtain ⟨σ1, hs1⟩ : ∃ z, z = sf σ0 1 (fun _ => 0) := ⟨_, rfl⟩
  replace hw : Wy vwCl G [.inr (.inr (4, [.inl 0, .inr false])), .inl (false, 120)] ad1 A s H locs σ1 := by rw [hs1]; exact hw
  refine x_putr X hw (o := 0) rfl cX4 0 (by decide) (by decide) 0 kX4_init_4 kX4_init_5 tyX4 tyX4_ok nmX4 rfl hin2 rfl (fun _ => rfl) (fun _ => rfl) dX4_init_9 (fun H locs hw => ?_)
  replace hw : Wy vwCl G [.inr (.inr (4, [.inl 1, .inr false])), .inl (false, 120)] ad1 A s H locs σ1 := hw
  refine x_aload_n X dX4_init_12 rfl (lv_at hl 0 rfl) ?_
  refine x_iconst X dX4_init_13 ?_
  refine x_puti X hw (o := 0) rfl cX4 1 (by decide) rfl kX4_init_4 kX4_init_6 tyX4 tyX4_ok nmX4 rfl rfl rfl dX4_init_14 (fun H locs σ2 hs2 hw => ?_)
  exact hret ad1 σ2 H locs ls 17 he0 (by rw [hs2, hs1, hs0]; rfl) hw dX4_init_17
theorem kX3_init_0 : Cond.methodLink RX3 3 objectInit ∈ wsX3_init := by decide +kernel
theorem kX3_init_1 : Cond.instanceMethod objectInit ∈ wsX3_init := by decide +kernel
theorem kX3_init_2 : Cond.code objectInit ⟨#[0xb1]⟩ 1 none ∈ wsX3_init := by decide +kernel
theorem kX3_init_3 : ∀ w ∈ wsX30, w ∈ wsX3_init := by decide +kernel
theorem kX3_init_4 : Cond.fieldLink RX3 9 "LacePillow$Sheet" "sort" "I" ∈ wsX3_init := by decide +kernel
theorem kX3_init_5 : Cond.fieldLink RX3 15 "LacePillow$Sheet" "size" "I" ∈ wsX3_init := by decide +kernel
theorem kX3_init_6 : Cond.arrayClass .long ∈ wsX3_init := by decide +kernel
theorem kX3_init_7 : Cond.fieldLink RX3 18 "LacePillow$Sheet" "numbers" "[J" ∈ wsX3_init := by decide +kernel
def LX3 : List LC := [.inr (.inr (3, [.inr false, .inr false, .inl 1])), .inl (true, 60)]
def PX3 (u : St) : Prop := u 0 0 = -1
set_option maxHeartbeats 4000000 in
set_option maxRecDepth 100000 in
theorem c_Sheet_init (l : Launch) (G : GT) (h0 sz : Nat) : Met l yX3_init wsX3_init (rmc 1 12 1 60) (Kp vwCl G (.inr (.inr (3, [.inr false, .inr false, .inl 0]))) (fun _ => True) h0 sz) (Kq vwCl G LX3 PX3 h0 sz) 1 60 (Af h0 sz) := by
  refine x_metc (own := RX3) (by decide) rfl rfl rfl (by decide) (by decide) ?_
  intro p e s m args below meth c R QQ A X hin2 hR hA hA2 hZ hret ad0 ls he0 hl hw
  obtain ⟨H, hH⟩ : ∃ z, z = s.heap := ⟨_, rfl⟩
  obtain ⟨locs, hlo⟩ : ∃ z : List Loc, z = [] := ⟨_, rfl⟩
  rw [← hH, ← hlo]
  obtain ⟨σ0, hs0⟩ : ∃ z : St, z = fun _ _ => 0 := ⟨_, rfl⟩
  replace hw : Wy vwCl G [.inr (.inr (3, [.inr false, .inr false, .inl 0]))] ad0 A s H locs σ0 := by rw [hH, hlo, hs0]; exact hw
  clear hH hlo
  refine x_aload_n X dX3_init_0 rfl (lv_at hl 0 rfl) ?_
  refine x_obj X hl.1 kX3_init_0 kX3_init_1 kX3_init_2 (x_fr hR.1.1 rfl) (x_fr hR.1.2 rfl) dX3_init_1 ?_
  refine x_aload_n X dX3_init_4 rfl (lv_at hl 0 rfl) ?_
  refine x_iconst X dX3_init_5 ?_
  refine x_puti X hw (o := 0) rfl cX3 0 (by decide) rfl kX3_init_3 kX3_init_4 tyX3 tyX3_ok nmX3 rfl rfl rfl dX3_init_6 (fun H locs σ1 hs1 hw => ?_)
  refine x_aload_n X dX3_init_9 rfl (lv_at hl 0 rfl) ?_
  refine x_iconst X dX3_init_10 ?_
  refine x_puti X hw (o := 0) rfl cX3 1 (by decide) rfl kX3_init_3 kX3_init_5 tyX3 tyX3_ok nmX3 rfl rfl rfl dX3_init_11 (fun H locs σ2 hs2 hw => ?_)
  refine x_aload_n X dX3_init_14 rfl (lv_at hl 0 rfl) ?_
  refine x_bipush X dX3_init_15 (by decide) ?_
  refine x_newj X hw hA (by decide) kX3_init_6 60 (by decide +kernel) rfl (x_fr hR.2.1 rfl) (x_fr hR.2.2 rfl) dX3_init_17 (fun ad3 H e3 hw => ?_)
  rw [← e3 0 (by decide)] at hl
  rw [← e3 0 (by decide)]
  replace he0 : ad3 0 = h0 := (e3 0 (by decide)).trans he0
  obtain ⟨σ3, hs3⟩ : ∃ z, z = sf σ2 1 (fun _ => 0) := ⟨_, rfl⟩
  replace hw : Wy vwCl G [.inr (.inr (3, [.inr false, .inr false, .inl 0])), .inl (true, 60)] ad3 A s H locs σ3 := by rw [hs3]; exact hw
  refine x_putr X hw (o := 0) rfl cX3 2 (by decide) (by decide) 0 kX3_init_3 kX3_init_7 tyX3 tyX3_ok nmX3 rfl hin2 rfl (fun _ => rfl) (fun _ => rfl) dX3_init_19 (fun H locs hw => ?_)
  replace hw : Wy vwCl G [.inr (.inr (3, [.inr false, .inr false, .inl 1])), .inl (true, 60)] ad3 A s H locs σ3 := hw
  exact hret ad3 σ3 H locs ls 22 he0 (by rw [hs3, hs2, hs1, hs0]; rfl) hw dX3_init_22
