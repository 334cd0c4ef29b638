-- WEAVE's constructor
theorem sendHome_ok {σ : St} {o : Nat} {Q : St → Prop} (h : ∀ u : St, (∀ j, 0 ≤ j → j < 16 → u (o + 1) j = j ∧ u (o + 2) j = j) ∧ (∀ k, k ≠ o + 1 → k ≠ o + 2 → u k = σ k) → Q u) : V_Weave_sendHome o σ Q := by
  unfold V_Weave_sendHome
  refine wl1 (fun i u => 0 ≤ i ∧ i ≤ 16 ∧ (∀ j, 0 ≤ j → j < i → u (o + 1) j = j ∧ u (o + 2) j = j) ∧ (∀ k, k ≠ o + 1 → k ≠ o + 2 → u k = σ k)) (fun i _ => (16 - i).toNat) ⟨by omega, by omega, fun j a b => by omega, fun _ _ _ => rfl⟩ ?_
  intro bk i u hI hb
  obtain ⟨h1, h2, h3, h4⟩ := hI
  rw [i32_id (x := i) (by omega) (by omega)]
  refine ⟨fun hc => h u ⟨fun j a b => h3 j a (by omega), h4⟩, fun hc => ⟨⟨by omega, hc⟩, fun u1 f1 => ⟨⟨by omega, hc⟩, fun u2 f2 => ?_⟩⟩⟩
  refine hb _ _ ⟨by omega, by omega, fun j a b => ?_, fun k a b => by rw [f2, ss_row _ b, f1, ss_row _ a]; exact h4 k a b⟩ (by omega)
  rw [f2, ss_row _ (by omega), ss_self, f1, ss_self, ss_row _ (by omega)]
  by_cases hj : j = i
  · simp [hj]
  · have := h3 j a (by omega)
    simp [hj, this]
set_option maxHeartbeats 4000000 in
theorem c_sendHome0 {L : List LC} (l : Launch) (G : GT) (ad : Nat → Nat) (hI : Inj L ad) {fs : List (Nat ⊕ Bool)} (hL0 : L[0]? = some (.inr (.inr (6, .inl 1 :: .inl 2 :: fs)))) (hL1 : L[1]? = some (.inl (false, 16))) (hL2 : L[2]? = some (.inl (false, 16))) (σ : St) {Q : St → Prop} (hV : V_Weave_sendHome 0 σ Q) : Met l yX6_sendHome wsX6_sendHome (rmx 0 0) (Pq vwCl G L ad σ [.ref (ad 0)]) (Qv vwCl G L ad Q) 0 0 (Ax L ad) := by
  unfold V_Weave_sendHome at hV
  refine x_metv (own := RX6) (by decide) rfl rfl (Nat.le_of_ble_eq_true rfl) hI ?_
  intro p e s m args below meth c R QQ X hR hret ls hl hw
  replace hl : lv_has ls 2 [(0, .ref (ad 0))] := hl
  obtain ⟨H, hH⟩ : ∃ z, z = s.heap := ⟨_, rfl⟩
  obtain ⟨locs, hlo⟩ : ∃ z : List Loc, z = [] := ⟨_, rfl⟩
  rw [← hH, ← hlo]
  replace hw : Wx vwCl G L ad s H locs σ := by rw [hH, hlo]; exact hw
  clear hH hlo
  refine x_iconst X dX6_sendHome_0 ?_
  refine x_istore_n X [(1, iV 0), (0, .ref (ad 0))] dX6_sendHome_1 rfl hl (by decide) rfl (fun ls hl => ?_)
  refine WL1.use (Gl := fun x1_1 σ2 => ∀ (H : Heap) (locs : List Loc) (ls : Array Slot), Wx vwCl G L ad s H locs σ2 → lv_has ls 2 [(1, iV x1_1), (0, .ref (ad 0))] → W p l e R s m args below meth c H locs 0 0 QQ (F0 m 2 ls [])) ?_ hV H locs ls hw hl
  clear hV hw hl H locs ls
  intro bk3 x1_1 σ2 hbk3 hV H locs ls hw hl
  refine x_iload_n X dX6_sendHome_2 rfl (lv_at hl 0 rfl) ?_
  refine x_bipush X dX6_sendHome_3 (by decide) ?_
  refine x_icmp_ge X rfl k32_16 28 dX6_sendHome_5 (by decide) (fun hc => ?_) (fun hc => ?_)
  · replace hV := hV.1 hc
    exact hret σ2 H locs ls 28 hV hw dX6_sendHome_28
  · replace hV := hV.2 hc
    refine x_aload_n X dX6_sendHome_8 rfl (lv_at hl 1 rfl) ?_
    refine x_getr X hw hL0 cX6 0 (by decide) rfl n_Weave_sendHome_1 n_Weave_sendHome_0 dX6_sendHome_9 ?_
    refine x_iload_n X dX6_sendHome_12 rfl (lv_at hl 0 rfl) ?_
    refine x_iload_n X dX6_sendHome_13 rfl (lv_at hl 0 rfl) ?_
    obtain ⟨hi, hV⟩ := hV
    refine x_iast X hw hL1 rfl rfl hi dX6_sendHome_14 (fun H locs σ4 hs hw => ?_)
    replace hV := hV σ4 hs
    refine x_aload_n X dX6_sendHome_15 rfl (lv_at hl 1 rfl) ?_
    refine x_getr X hw hL0 cX6 1 (by decide) rfl n_Weave_sendHome_1 n_Weave_sendHome_2 dX6_sendHome_16 ?_
    refine x_iload_n X dX6_sendHome_19 rfl (lv_at hl 0 rfl) ?_
    refine x_iload_n X dX6_sendHome_20 rfl (lv_at hl 0 rfl) ?_
    obtain ⟨hi, hV⟩ := hV
    refine x_iast X hw hL2 rfl rfl hi dX6_sendHome_21 (fun H locs σ5 hs hw => ?_)
    replace hV := hV σ5 hs
    refine x_iinc X (k := 0) (x1_1 + 1) [(1, iV (x1_1 + 1)), (0, .ref (ad 0))] dX6_sendHome_22 hl rfl rfl (by decide) rfl (fun ls hl => ?_)
    refine x_goto X 2 dX6_sendHome_25 (by decide) ?_
    exact hbk3 (x1_1 + 1) σ5 hV H locs ls hw hl
theorem kX6_init_0 : Cond.methodLink RX6 3 objectInit ∈ wsX6_init := by decide +kernel
theorem kX6_init_1 : Cond.instanceMethod objectInit ∈ wsX6_init := by decide +kernel
theorem kX6_init_2 : Cond.code objectInit ⟨#[0xb1]⟩ 1 none ∈ wsX6_init := by decide +kernel
theorem kX6_init_3 : Cond.arrayClass .int ∈ wsX6_init := by decide +kernel
theorem kX6_init_4 : ∀ w ∈ wsX60, w ∈ wsX6_init := by decide +kernel
theorem kX6_init_5 : Cond.fieldLink RX6 9 "LacePillow$Weave" "threads" "[I" ∈ wsX6_init := by decide +kernel
theorem kX6_init_6 : Cond.fieldLink RX6 15 "LacePillow$Weave" "places" "[I" ∈ wsX6_init := by decide +kernel
theorem kX6_init_7 : Cond.fieldLink RX6 18 "LacePillow$Weave" "used" "[I" ∈ wsX6_init := by decide +kernel
theorem kX6_init_8 : Cond.fieldLink RX6 21 "LacePillow$Weave" "overs" "[I" ∈ wsX6_init := by decide +kernel
theorem kX6_init_9 : Cond.fieldLink RX6 24 "LacePillow$Weave" "unders" "[I" ∈ wsX6_init := by decide +kernel
theorem kX6_init_10 : Cond.fieldLink RX6 27 "LacePillow$Weave" "falses" "[I" ∈ wsX6_init := by decide +kernel
theorem kX6_init_11 : Cond.fieldLink RX6 30 "LacePillow$Weave" "sides" "[I" ∈ wsX6_init := by decide +kernel
theorem kX6_init_12 : Cond.fieldLink RX6 33 "LacePillow$Weave" "passes" "[I" ∈ wsX6_init := by decide +kernel
theorem kX6_init_13 : ∀ w ∈ wsX10, w ∈ wsX6_init := by decide +kernel
theorem kX6_init_14 : Cond.classLink RX6 36 RX1 ∈ wsX6_init := by decide +kernel
theorem kX6_init_15 : Cond.instantiable RX1 3 ∈ wsX6_init := by decide +kernel
theorem kX6_init_16 : Cond.initialized RX1 ∈ wsX6_init := by decide +kernel
theorem kX6_init_17 : Cond.methodLink RX6 38 yX1_init ∈ wsX6_init := by decide +kernel
theorem kX6_init_18 : Cond.instanceMethod yX1_init ∈ wsX6_init := by decide +kernel
theorem kX6_init_19 : Cond.fieldLink RX6 39 "LacePillow$Weave" "heap" "LLacePillow$Heap;" ∈ wsX6_init := by decide +kernel
theorem kX6_init_20 : Cond.fieldLink RX6 43 "LacePillow$Weave" "crossings" "I" ∈ wsX6_init := by decide +kernel
def LX6 : List LC := [.inr (.inr (6, [.inl 1, .inl 2, .inl 3, .inl 4, .inl 5, .inl 6, .inl 7, .inl 8, .inl 9, .inr false])), .inl (false, 16), .inl (false, 16), .inl (false, 16), .inl (false, 16), .inl (false, 16), .inl (false, 16), .inl (false, 16), .inl (false, 256), .inr (.inr (1, [.inr false, .inl 10, .inl 11])), .inl (false, 1440), .inl (false, 17)]
def PX6 (u : St) : Prop := u 0 9 = 0 ∧ (∀ j, 0 ≤ j → j < 16 → u 1 j = j ∧ u 2 j = j) ∧ (∀ i, u 3 i = 0) ∧ (∀ i, u 4 i = 0) ∧ (∀ i, u 5 i = 0) ∧ (∀ j, 0 ≤ j → j < 16 → u 6 j = -1) ∧ (∀ i, u 7 i = 0) ∧ (∀ i, u 8 i = 0) ∧ PX1 (fun k => u (9 + k))
theorem finX6 {σ9 σ10 σ11 σ12 σ13 : St} (h9 : ∀ k, 3 ≤ k → k ≤ 8 → ∀ i, σ9 k i = 0) (h10 : ∀ k, k < 9 → σ10 k = σ9 k) (hp : PX1 (fun k => σ10 (9 + k))) (h11 : σ11 = ss σ10 0 9 0) (h12 : (∀ j, 0 ≤ j → j < 16 → σ12 1 j = j ∧ σ12 2 j = j) ∧ ∀ k, k ≠ 1 → k ≠ 2 → σ12 k = σ11 k) (h13 : σ13 = sf σ12 6 (fun i => if 0 ≤ i ∧ i < 16 then -1 else σ12 6 i)) : PX6 σ13 := by
  have z : ∀ k, 3 ≤ k → k ≤ 8 → k ≠ 6 → ∀ i, σ13 k i = 0 := fun k a b c i => by
    rw [h13, sf_row _ c, h12.2 k (by omega) (by omega), h11, ss_row _ (by omega), h10 k (by omega)]
    exact h9 k a b i
  refine ⟨?_, fun j a b => ?_, z 3 (by decide) (by decide) (by decide), z 4 (by decide) (by decide) (by decide), z 5 (by decide) (by decide) (by decide), fun j a b => ?_, z 7 (by decide) (by decide) (by decide), z 8 (by decide) (by decide) (by decide), ?_⟩
  · rw [h13, sf_row _ (by decide), h12.2 0 (by decide) (by decide), h11, ss_at]
  · rw [h13, sf_row _ (by decide), sf_row _ (by decide)]
    exact h12.1 j a b
  · rw [h13, sf_at]
    exact if_pos ⟨a, b⟩
  · have : (fun k => σ13 (9 + k)) = (fun k => σ10 (9 + k)) := by
      funext k
      rw [h13, sf_row _ (by omega), h12.2 _ (by omega) (by omega), h11, ss_row _ (by omega)]
    rw [this]
    exact hp
set_option maxHeartbeats 4000000 in
set_option maxRecDepth 100000 in
theorem c_Weave_init (l : Launch) (G : GT) (h0 sz : Nat) : Met l yX6_init wsX6_init (rmc 2 44 11 1828) (Kp vwCl G (.inr (.inr (6, [.inl 0, .inl 0, .inl 0, .inl 0, .inl 0, .inl 0, .inl 0, .inl 0, .inl 0, .inr false]))) (fun _ => True) h0 sz) (Kq vwCl G LX6 PX6 h0 sz) 11 1828 (Af h0 sz) := by
  refine x_metc (own := RX6) (by decide) rfl rfl rfl (by decide) (by decide) ?_
  intro p e s m args below meth c R QQ A X hin2 hR hA hA2 hZ hret ad0 ls he0 hl hw
  obtain ⟨H, hH⟩ : ∃ z, z = s.heap := ⟨_, rfl⟩
  obtain ⟨locs, hlo⟩ : ∃ z : List Loc, z = [] := ⟨_, rfl⟩
  rw [← hH, ← hlo]
  obtain ⟨σ0, hs0⟩ : ∃ z : St, z = fun _ _ => 0 := ⟨_, rfl⟩
  replace hw : Wy vwCl G [.inr (.inr (6, [.inl 0, .inl 0, .inl 0, .inl 0, .inl 0, .inl 0, .inl 0, .inl 0, .inl 0, .inr false]))] ad0 A s H locs σ0 := by rw [hH, hlo, hs0]; exact hw
  clear hH hlo
  refine x_aload_n X dX6_init_0 rfl (lv_at hl 0 rfl) ?_
  refine x_obj X hl.1 kX6_init_0 kX6_init_1 kX6_init_2 (x_fr hR.1.1 rfl) (x_fr hR.1.2 rfl) dX6_init_1 ?_
  refine x_aload_n X dX6_init_4 rfl (lv_at hl 0 rfl) ?_
  refine x_bipush X dX6_init_5 (by decide) ?_
  refine x_newi X hw hA (by decide) kX6_init_3 16 (by decide +kernel) rfl (x_fr hR.2.1 rfl) (x_fr hR.2.2 rfl) dX6_init_7 (fun ad1 H e1 hw => ?_)
  rw [← e1 0 (by decide)] at hl
  rw [← e1 0 (by decide)]
  replace he0 : ad1 0 = h0 := (e1 0 (by decide)).trans he0
  obtain ⟨σ1, hs1⟩ : ∃ z, z = sf σ0 1 (fun _ => 0) := ⟨_, rfl⟩
  replace hw : Wy vwCl G [.inr (.inr (6, [.inl 0, .inl 0, .inl 0, .inl 0, .inl 0, .inl 0, .inl 0, .inl 0, .inl 0, .inr false])), .inl (false, 16)] ad1 A s H locs σ1 := by rw [hs1]; exact hw
  refine x_putr X hw (o := 0) rfl cX6 0 (by decide) (by decide) 0 kX6_init_4 kX6_init_5 tyX6 tyX6_ok nmX6 rfl hin2 rfl (fun _ => rfl) (fun _ => rfl) dX6_init_9 (fun H locs hw => ?_)
  replace hw : Wy vwCl G [.inr (.inr (6, [.inl 1, .inl 0, .inl 0, .inl 0, .inl 0, .inl 0, .inl 0, .inl 0, .inl 0, .inr false])), .inl (false, 16)] ad1 A s H locs σ1 := hw
  refine x_aload_n X dX6_init_12 rfl (lv_at hl 0 rfl) ?_
  refine x_bipush X dX6_init_13 (by decide) ?_
  refine x_newi X hw hA (by decide) kX6_init_3 16 (by decide +kernel) rfl (x_fr hR.2.1 rfl) (x_fr hR.2.2 rfl) dX6_init_15 (fun ad2 H e2 hw => ?_)
  rw [← e2 0 (by decide)] at hl
  rw [← e2 0 (by decide)]
  replace he0 : ad2 0 = h0 := (e2 0 (by decide)).trans he0
  obtain ⟨σ2, hs2⟩ : ∃ z, z = sf σ1 2 (fun _ => 0) := ⟨_, rfl⟩
  replace hw : Wy vwCl G [.inr (.inr (6, [.inl 1, .inl 0, .inl 0, .inl 0, .inl 0, .inl 0, .inl 0, .inl 0, .inl 0, .inr false])), .inl (false, 16), .inl (false, 16)] ad2 A s H locs σ2 := by rw [hs2]; exact hw
  refine x_putr X hw (o := 0) rfl cX6 1 (by decide) (by decide) 1 kX6_init_4 kX6_init_6 tyX6 tyX6_ok nmX6 rfl hin2 rfl (fun _ => rfl) (fun _ => rfl) dX6_init_17 (fun H locs hw => ?_)
  replace hw : Wy vwCl G [.inr (.inr (6, [.inl 1, .inl 2, .inl 0, .inl 0, .inl 0, .inl 0, .inl 0, .inl 0, .inl 0, .inr false])), .inl (false, 16), .inl (false, 16)] ad2 A s H locs σ2 := hw
  refine x_aload_n X dX6_init_20 rfl (lv_at hl 0 rfl) ?_
  refine x_bipush X dX6_init_21 (by decide) ?_
  refine x_newi X hw hA (by decide) kX6_init_3 16 (by decide +kernel) rfl (x_fr hR.2.1 rfl) (x_fr hR.2.2 rfl) dX6_init_23 (fun ad3 H e3 hw => ?_)
  rw [← e3 0 (by decide)] at hl
  rw [← e3 0 (by decide)]
  replace he0 : ad3 0 = h0 := (e3 0 (by decide)).trans he0
  obtain ⟨σ3, hs3⟩ : ∃ z, z = sf σ2 3 (fun _ => 0) := ⟨_, rfl⟩
  replace hw : Wy vwCl G [.inr (.inr (6, [.inl 1, .inl 2, .inl 0, .inl 0, .inl 0, .inl 0, .inl 0, .inl 0, .inl 0, .inr false])), .inl (false, 16), .inl (false, 16), .inl (false, 16)] ad3 A s H locs σ3 := by rw [hs3]; exact hw
  refine x_putr X hw (o := 0) rfl cX6 2 (by decide) (by decide) 2 kX6_init_4 kX6_init_7 tyX6 tyX6_ok nmX6 rfl hin2 rfl (fun _ => rfl) (fun _ => rfl) dX6_init_25 (fun H locs hw => ?_)
  replace hw : Wy vwCl G [.inr (.inr (6, [.inl 1, .inl 2, .inl 3, .inl 0, .inl 0, .inl 0, .inl 0, .inl 0, .inl 0, .inr false])), .inl (false, 16), .inl (false, 16), .inl (false, 16)] ad3 A s H locs σ3 := hw
  refine x_aload_n X dX6_init_28 rfl (lv_at hl 0 rfl) ?_
  refine x_bipush X dX6_init_29 (by decide) ?_
  refine x_newi X hw hA (by decide) kX6_init_3 16 (by decide +kernel) rfl (x_fr hR.2.1 rfl) (x_fr hR.2.2 rfl) dX6_init_31 (fun ad4 H e4 hw => ?_)
  rw [← e4 0 (by decide)] at hl
  rw [← e4 0 (by decide)]
  replace he0 : ad4 0 = h0 := (e4 0 (by decide)).trans he0
  obtain ⟨σ4, hs4⟩ : ∃ z, z = sf σ3 4 (fun _ => 0) := ⟨_, rfl⟩
  replace hw : Wy vwCl G [.inr (.inr (6, [.inl 1, .inl 2, .inl 3, .inl 0, .inl 0, .inl 0, .inl 0, .inl 0, .inl 0, .inr false])), .inl (false, 16), .inl (false, 16), .inl (false, 16), .inl (false, 16)] ad4 A s H locs σ4 := by rw [hs4]; exact hw
  refine x_putr X hw (o := 0) rfl cX6 3 (by decide) (by decide) 3 kX6_init_4 kX6_init_8 tyX6 tyX6_ok nmX6 rfl hin2 rfl (fun _ => rfl) (fun _ => rfl) dX6_init_33 (fun H locs hw => ?_)
  replace hw : Wy vwCl G [.inr (.inr (6, [.inl 1, .inl 2, .inl 3, .inl 4, .inl 0, .inl 0, .inl 0, .inl 0, .inl 0, .inr false])), .inl (false, 16), .inl (false, 16), .inl (false, 16), .inl (false, 16)] ad4 A s H locs σ4 := hw
  refine x_aload_n X dX6_init_36 rfl (lv_at hl 0 rfl) ?_
  refine x_bipush X dX6_init_37 (by decide) ?_
  refine x_newi X hw hA (by decide) kX6_init_3 16 (by decide +kernel) rfl (x_fr hR.2.1 rfl) (x_fr hR.2.2 rfl) dX6_init_39 (fun ad5 H e5 hw => ?_)
  rw [← e5 0 (by decide)] at hl
  rw [← e5 0 (by decide)]
  replace he0 : ad5 0 = h0 := (e5 0 (by decide)).trans he0
  obtain ⟨σ5, hs5⟩ : ∃ z, z = sf σ4 5 (fun _ => 0) := ⟨_, rfl⟩
  replace hw : Wy vwCl G [.inr (.inr (6, [.inl 1, .inl 2, .inl 3, .inl 4, .inl 0, .inl 0, .inl 0, .inl 0, .inl 0, .inr false])), .inl (false, 16), .inl (false, 16), .inl (false, 16), .inl (false, 16), .inl (false, 16)] ad5 A s H locs σ5 := by rw [hs5]; exact hw
  refine x_putr X hw (o := 0) rfl cX6 4 (by decide) (by decide) 4 kX6_init_4 kX6_init_9 tyX6 tyX6_ok nmX6 rfl hin2 rfl (fun _ => rfl) (fun _ => rfl) dX6_init_41 (fun H locs hw => ?_)
  replace hw : Wy vwCl G [.inr (.inr (6, [.inl 1, .inl 2, .inl 3, .inl 4, .inl 5, .inl 0, .inl 0, .inl 0, .inl 0, .inr false])), .inl (false, 16), .inl (false, 16), .inl (false, 16), .inl (false, 16), .inl (false, 16)] ad5 A s H locs σ5 := hw
  refine x_aload_n X dX6_init_44 rfl (lv_at hl 0 rfl) ?_
  refine x_bipush X dX6_init_45 (by decide) ?_
  refine x_newi X hw hA (by decide) kX6_init_3 16 (by decide +kernel) rfl (x_fr hR.2.1 rfl) (x_fr hR.2.2 rfl) dX6_init_47 (fun ad6 H e6 hw => ?_)
  rw [← e6 0 (by decide)] at hl
  rw [← e6 0 (by decide)]
  replace he0 : ad6 0 = h0 := (e6 0 (by decide)).trans he0
  obtain ⟨σ6, hs6⟩ : ∃ z, z = sf σ5 6 (fun _ => 0) := ⟨_, rfl⟩
  replace hw : Wy vwCl G [.inr (.inr (6, [.inl 1, .inl 2, .inl 3, .inl 4, .inl 5, .inl 0, .inl 0, .inl 0, .inl 0, .inr false])), .inl (false, 16), .inl (false, 16), .inl (false, 16), .inl (false, 16), .inl (false, 16), .inl (false, 16)] ad6 A s H locs σ6 := by rw [hs6]; exact hw
  refine x_putr X hw (o := 0) rfl cX6 5 (by decide) (by decide) 5 kX6_init_4 kX6_init_10 tyX6 tyX6_ok nmX6 rfl hin2 rfl (fun _ => rfl) (fun _ => rfl) dX6_init_49 (fun H locs hw => ?_)
  replace hw : Wy vwCl G [.inr (.inr (6, [.inl 1, .inl 2, .inl 3, .inl 4, .inl 5, .inl 6, .inl 0, .inl 0, .inl 0, .inr false])), .inl (false, 16), .inl (false, 16), .inl (false, 16), .inl (false, 16), .inl (false, 16), .inl (false, 16)] ad6 A s H locs σ6 := hw
  refine x_aload_n X dX6_init_52 rfl (lv_at hl 0 rfl) ?_
  refine x_bipush X dX6_init_53 (by decide) ?_
  refine x_newi X hw hA (by decide) kX6_init_3 16 (by decide +kernel) rfl (x_fr hR.2.1 rfl) (x_fr hR.2.2 rfl) dX6_init_55 (fun ad7 H e7 hw => ?_)
  rw [← e7 0 (by decide)] at hl
  rw [← e7 0 (by decide)]
  replace he0 : ad7 0 = h0 := (e7 0 (by decide)).trans he0
  obtain ⟨σ7, hs7⟩ : ∃ z, z = sf σ6 7 (fun _ => 0) := ⟨_, rfl⟩
  replace hw : Wy vwCl G [.inr (.inr (6, [.inl 1, .inl 2, .inl 3, .inl 4, .inl 5, .inl 6, .inl 0, .inl 0, .inl 0, .inr false])), .inl (false, 16), .inl (false, 16), .inl (false, 16), .inl (false, 16), .inl (false, 16), .inl (false, 16), .inl (false, 16)] ad7 A s H locs σ7 := by rw [hs7]; exact hw
  refine x_putr X hw (o := 0) rfl cX6 6 (by decide) (by decide) 6 kX6_init_4 kX6_init_11 tyX6 tyX6_ok nmX6 rfl hin2 rfl (fun _ => rfl) (fun _ => rfl) dX6_init_57 (fun H locs hw => ?_)
  replace hw : Wy vwCl G [.inr (.inr (6, [.inl 1, .inl 2, .inl 3, .inl 4, .inl 5, .inl 6, .inl 7, .inl 0, .inl 0, .inr false])), .inl (false, 16), .inl (false, 16), .inl (false, 16), .inl (false, 16), .inl (false, 16), .inl (false, 16), .inl (false, 16)] ad7 A s H locs σ7 := hw
  refine x_aload_n X dX6_init_60 rfl (lv_at hl 0 rfl) ?_
  refine x_sipush X dX6_init_61 (by decide) ?_
  refine x_newi X hw hA (by decide) kX6_init_3 256 (by decide +kernel) rfl (x_fr hR.2.1 rfl) (x_fr hR.2.2 rfl) dX6_init_64 (fun ad8 H e8 hw => ?_)
  rw [← e8 0 (by decide)] at hl
  rw [← e8 0 (by decide)]
  replace he0 : ad8 0 = h0 := (e8 0 (by decide)).trans he0
  obtain ⟨σ8, hs8⟩ : ∃ z, z = sf σ7 8 (fun _ => 0) := ⟨_, rfl⟩
  replace hw : Wy vwCl G [.inr (.inr (6, [.inl 1, .inl 2, .inl 3, .inl 4, .inl 5, .inl 6, .inl 7, .inl 0, .inl 0, .inr false])), .inl (false, 16), .inl (false, 16), .inl (false, 16), .inl (false, 16), .inl (false, 16), .inl (false, 16), .inl (false, 16), .inl (false, 256)] ad8 A s H locs σ8 := by rw [hs8]; exact hw
  refine x_putr X hw (o := 0) rfl cX6 7 (by decide) (by decide) 7 kX6_init_4 kX6_init_12 tyX6 tyX6_ok nmX6 rfl hin2 rfl (fun _ => rfl) (fun _ => rfl) dX6_init_66 (fun H locs hw => ?_)
  replace hw : Wy vwCl G [.inr (.inr (6, [.inl 1, .inl 2, .inl 3, .inl 4, .inl 5, .inl 6, .inl 7, .inl 8, .inl 0, .inr false])), .inl (false, 16), .inl (false, 16), .inl (false, 16), .inl (false, 16), .inl (false, 16), .inl (false, 16), .inl (false, 16), .inl (false, 256)] ad8 A s H locs σ8 := hw
  refine x_aload_n X dX6_init_69 rfl (lv_at hl 0 rfl) ?_
  refine x_newo X hw hA (by decide) [.inr false, .inl 0, .inl 0] cX1 kX6_init_13 tyX1 tyX1_ok kX6_init_14 kX6_init_15 kX6_init_16 (by decide) fitsX1 (x_fr hR.2.1 rfl) (x_fr hR.2.2 rfl) dX6_init_70 (fun ad9 H e9 hw => ?_)
  show W p l e R s m args below meth c H locs _ _ QQ (F0 m _ ls (.ref (ad9 9) :: _))
  rw [← e9 0 (by decide)] at hl
  rw [← e9 0 (by decide)]
  replace he0 : ad9 0 = h0 := (e9 0 (by decide)).trans he0
  obtain ⟨σ9, hs9⟩ : ∃ z, z = sf σ8 9 (fun _ => 0) := ⟨_, rfl⟩
  replace hw : Wy vwCl G [.inr (.inr (6, [.inl 1, .inl 2, .inl 3, .inl 4, .inl 5, .inl 6, .inl 7, .inl 8, .inl 0, .inr false])), .inl (false, 16), .inl (false, 16), .inl (false, 16), .inl (false, 16), .inl (false, 16), .inl (false, 16), .inl (false, 16), .inl (false, 256), .inr (.inr (1, [.inr false, .inl 0, .inl 0]))] ad9 A s H locs σ9 := by rw [hs9]; exact hw
  refine x_dup X dX6_init_73 rfl ?_
  refine x_ctor (L := [.inr (.inr (6, [.inl 1, .inl 2, .inl 3, .inl 4, .inl 5, .inl 6, .inl 7, .inl 8, .inl 0, .inr false])), .inl (false, 16), .inl (false, 16), .inl (false, 16), .inl (false, 16), .inl (false, 16), .inl (false, 16), .inl (false, 16), .inl (false, 256)]) (M := LX1) X 9 rfl hw hA (by decide) (by decide) (by rw [hs9]; exact sf_at _ _ _) (fun sz => c_Heap_init l G _ sz) (cwI 0 X.2.2.2.2 ggX6_init_X1_init rfl rfl rfl (X.2.2.2.2 _ kX6_init_16) (X.2.2.2.2 _ kX6_init_17) (X.2.2.2.2 _ kX6_init_18) rfl (by decide +kernel) ⟨x_fr hR.1.1 rfl, x_fr hR.1.2 rfl⟩) (fun _ _ _ _ _ => trivial) (fun _ _ _ => trivial) hl.1 (Nat.le_of_ble_eq_true rfl) dX6_init_74 ⟨x_fr hR.2.1 rfl, x_fr hR.2.2 rfl⟩ (fun ad10 σ10 H locs e10 f10 hs10 hp10 hw => ?_)
  rw [← e10 0 (by decide)] at hl
  rw [← e10 0 (by decide)]
  replace he0 : ad10 0 = h0 := (e10 0 (by decide)).trans he0
  rw [← f10]
  replace hw : Wy vwCl G [.inr (.inr (6, [.inl 1, .inl 2, .inl 3, .inl 4, .inl 5, .inl 6, .inl 7, .inl 8, .inl 0, .inr false])), .inl (false, 16), .inl (false, 16), .inl (false, 16), .inl (false, 16), .inl (false, 16), .inl (false, 16), .inl (false, 16), .inl (false, 256), .inr (.inr (1, [.inr false, .inl 10, .inl 11])), .inl (false, 1440), .inl (false, 17)] ad10 A s H locs σ10 := hw
  refine x_putr X hw (o := 0) rfl cX6 8 (by decide) (by decide) 8 kX6_init_4 kX6_init_19 tyX6 tyX6_ok nmX6 rfl hin2 rfl (fun _ => rfl) (fun _ => rfl) dX6_init_77 (fun H locs hw => ?_)
  replace hw : Wy vwCl G [.inr (.inr (6, [.inl 1, .inl 2, .inl 3, .inl 4, .inl 5, .inl 6, .inl 7, .inl 8, .inl 9, .inr false])), .inl (false, 16), .inl (false, 16), .inl (false, 16), .inl (false, 16), .inl (false, 16), .inl (false, 16), .inl (false, 16), .inl (false, 256), .inr (.inr (1, [.inr false, .inl 10, .inl 11])), .inl (false, 1440), .inl (false, 17)] ad10 A s H locs σ10 := hw
  refine x_aload_n X dX6_init_80 rfl (lv_at hl 0 rfl) ?_
  refine x_iconst X dX6_init_81 ?_
  refine x_puti X hw (o := 0) rfl cX6 9 (by decide) rfl kX6_init_4 kX6_init_20 tyX6 tyX6_ok nmX6 rfl rfl rfl dX6_init_82 (fun H locs σ11 hs11 hw => ?_)
  refine x_aload_n X dX6_init_85 rfl (lv_at hl 0 rfl) ?_
  refine x_cvv X hw [] [] (c_sendHome0 l G ad10 hw.2.1.1 rfl rfl rfl σ11 (Q := fun u => (∀ j, 0 ≤ j → j < 16 → u 1 j = j ∧ u 2 j = j) ∧ ∀ k, k ≠ 1 → k ≠ 2 → u k = σ11 k) (sendHome_ok (fun u h => h))) (cwV 0 X.2.2.2.2 gX6_init_X6_sendHome rfl rfl rfl hd_Weave_sendHome ⟨x_fr hR.1.1 rfl, x_fr hR.1.2 rfl⟩) (o := 0) rfl cX6 rfl hl.1 rfl (Nat.le_of_ble_eq_true rfl) dX6_init_86 ⟨x_fr hR.2.1 rfl, x_fr hR.2.2 rfl⟩ (fun σ12 H locs hs12 hw => ?_)
  refine x_aload_n X dX6_init_89 rfl (lv_at hl 0 rfl) ?_
  refine x_getr X hw (o := 0) rfl cX6 5 (by decide) (k0 := 5) rfl kX6_init_4 kX6_init_10 dX6_init_90 ?_
  refine x_iconst X dX6_init_93 ?_
  refine x_csv X hw [.ref (ad10 6), iV (-1)] [] (c_fillI l G ad10 hw.2.1.1 6 16 rfl σ12 (-1) (Q := fun u => u = sf σ12 6 (fun i => if 0 ≤ i ∧ i < 16 then -1 else σ12 6 i)) (fillI_ok (by decide) rfl)) (va_cwS 2 X.2.2.2.2 gX6_init_J7_fill_53178 rfl rfl rfl hd_fillI ⟨x_fr hR.1.1 rfl, x_fr hR.1.2 rfl⟩) rfl hl.1 rfl (Nat.le_of_ble_eq_true rfl) dX6_init_94 ⟨x_fr hR.2.1 rfl, x_fr hR.2.2 rfl⟩ (fun σ13 H locs hs13 hw => ?_)
  exact hret ad10 σ13 H locs ls 97 he0 (finX6 (by rw [hs9, hs8, hs7, hs6, hs5, hs4, hs3, hs2, hs1, hs0]; intro k h1 h2 i; have : k = 3 ∨ k = 4 ∨ k = 5 ∨ k = 6 ∨ k = 7 ∨ k = 8 := (by omega); rcases this with rfl | rfl | rfl | rfl | rfl | rfl <;> rfl) hs10 hp10 hs11 hs12 hs13) hw dX6_init_97
