-- PLAN's constructor: the words
def fl (u : St) (k : Nat) : Nat → St
  | 0 => u
  | i + 1 => ss (fl u k i) 2 ((k : Int) * 8 + i) (byW k i).toInt
def kd (u : St) : Nat → St
  | 0 => u
  | k + 1 => fl (ss (kd u k) 3 k ((lnW k : Nat) : Int)) k (lnW k)
def wdl (k : Int) : Int := (lnW k.toNat : Nat)
def wdc (k i : Int) : Int := if i < (lnW k.toNat : Nat) then (byW k.toNat i.toNat).toInt else 0
theorem fl_2 {u v : St} (h : u 2 = v 2) (k n : Nat) : fl u k n 2 = fl v k n 2 := by
  induction n with
  | zero => exact h
  | succ n ih => show ss (fl u k n) 2 _ _ 2 = ss (fl v k n) 2 _ _ 2; rw [ss_self, ss_self, ih]
theorem fl_o {u : St} {c : Nat} (hc : c ≠ 2) (k n : Nat) : fl u k n c = u c := by
  induction n with
  | zero => rfl
  | succ n ih => show ss (fl u k n) 2 _ _ c = _; rw [ss_row _ hc, ih]
theorem kd_2 {u v : St} (h : u 2 = v 2) (n : Nat) : kd u n 2 = kd v n 2 := by
  induction n with
  | zero => exact h
  | succ n ih => exact fl_2 (by rw [ss_row _ (by decide), ss_row _ (by decide), ih]) n (lnW n)
theorem kd_3 {u v : St} (h : u 3 = v 3) (n : Nat) : kd u n 3 = kd v n 3 := by
  induction n with
  | zero => exact h
  | succ n ih =>
    show fl _ n (lnW n) 3 = fl _ n (lnW n) 3
    rw [fl_o (by decide), fl_o (by decide), ss_self, ss_self, ih]
theorem kd_o {u : St} {c : Nat} (h2 : c ≠ 2) (h3 : c ≠ 3) (n : Nat) : kd u n c = u c := by
  induction n with
  | zero => rfl
  | succ n ih => show fl _ n (lnW n) c = _; rw [fl_o h2, ss_row _ h3, ih]
theorem kd_c2 : ∀ k, k < 6 → ∀ i, i < 8 → kd (fun _ _ => 0) 6 2 ((k * 8 + i : Nat) : Int) = wdc (k : Nat) (i : Nat) := by decide +kernel
theorem kd_c3 : ∀ k, k < 6 → kd (fun _ _ => 0) 6 3 ((k : Nat) : Int) = wdl (k : Nat) := by decide +kernel
theorem kd_words {u : St} (h2 : u 2 = fun _ => 0) (h3 : u 3 = fun _ => 0) (k : Int) (h : 0 ≤ k) (hk : k < 6) : kd u 6 3 k = wdl k ∧ ∀ i, 0 ≤ i → i < 8 → kd u 6 2 (k * 8 + i) = wdc k i := by
  obtain ⟨n, rfl⟩ : ∃ n : Nat, k = n := ⟨k.toNat, by omega⟩
  refine ⟨?_, fun i a b => ?_⟩
  · rw [kd_3 (v := fun _ _ => 0) h3]
    exact kd_c3 n (by omega)
  · obtain ⟨j, rfl⟩ : ∃ j : Nat, i = j := ⟨i.toNat, by omega⟩
    rw [kd_2 (v := fun _ _ => 0) h2]
    have := kd_c2 n (by omega) j (by omega)
    rw [show ((n * 8 + j : Nat) : Int) = (n : Int) * 8 + j by omega] at this
    exact this
theorem iV_nat (n : Nat) : (.int (Int32.ofNat n) : Value) = iV (n : Nat) := by unfold iV; rw [ofi_nat]
theorem iV_i32 (x : Int32) : (.int x : Value) = iV x.toInt := by unfold iV; rw [ofi]
theorem lnW_4 : ∀ k, k < 6 → lnW k ≤ 4 := by decide
theorem kX2_init_0 : Cond.methodLink RX2 3 objectInit ∈ wsX2_init := by decide +kernel
theorem kX2_init_1 : Cond.instanceMethod objectInit ∈ wsX2_init := by decide +kernel
theorem kX2_init_2 : Cond.code objectInit ⟨#[0xb1]⟩ 1 none ∈ wsX2_init := by decide +kernel
theorem kX2_init_3 : ∀ w ∈ wsX20, w ∈ wsX2_init := by decide +kernel
theorem kX2_init_4 : Cond.fieldLink RX2 9 "LacePillow$Plan" "pairs" "I" ∈ wsX2_init := by decide +kernel
theorem kX2_init_5 : Cond.arrayClass .int ∈ wsX2_init := by decide +kernel
theorem kX2_init_6 : Cond.fieldLink RX2 15 "LacePillow$Plan" "cells" "[I" ∈ wsX2_init := by decide +kernel
theorem kX2_init_7 : Cond.fieldLink RX2 19 "LacePillow$Plan" "letters" "[I" ∈ wsX2_init := by decide +kernel
theorem kX2_init_8 : Cond.fieldLink RX2 22 "LacePillow$Plan" "lengths" "[I" ∈ wsX2_init := by decide +kernel
theorem kX2_init_9 : Cond.fieldLink RX2 25 "LacePillow$Plan" "wound" "[I" ∈ wsX2_init := by decide +kernel
theorem kX2_init_10 : Cond.fieldLink RX2 28 "LacePillow$Plan" "work" "[I" ∈ wsX2_init := by decide +kernel
theorem kX2_init_11 : Cond.fieldLink RX2 31 "LacePillow$Plan" "worked" "I" ∈ wsX2_init := by decide +kernel
def LX2 : List LC := [.inr (.inr (2, [.inr false, .inl 1, .inl 2, .inl 3, .inl 4, .inl 5, .inr false])), .inl (false, 84), .inl (false, 48), .inl (false, 6), .inl (false, 16), .inl (false, 48)]
def PX2 (u : St) : Prop := u 0 0 = 4 ∧ u 0 6 = 0 ∧ (∀ i, 0 ≤ i → i < 84 → u 1 i = -1) ∧ (∀ k, 0 ≤ k → k < 6 → u 3 k = wdl k ∧ ∀ i, 0 ≤ i → i < 8 → u 2 (k * 8 + i) = wdc k i) ∧ (∀ i, 0 ≤ i → i < 16 → u 4 i = 200) ∧ ∀ i, u 5 i = 0
theorem finX2 {σ7 σ8 σ9 : St} (h9 : σ9 = sf σ8 4 (fun i => if 0 ≤ i ∧ i < 16 then 200 else σ8 4 i)) (h8 : σ8 = sf σ7 1 (fun i => if 0 ≤ i ∧ i < 84 then -1 else σ7 1 i)) (h7 : σ7 0 0 = 4 ∧ σ7 0 6 = 0 ∧ σ7 2 = (fun _ => 0) ∧ σ7 3 = (fun _ => 0) ∧ σ7 5 = (fun _ => 0)) : PX2 (kd σ9 6) := by
  obtain ⟨a1, a2, a3, a4, a5⟩ := h7
  refine ⟨?_, ?_, fun i p q => ?_, kd_words ?_ ?_, fun i p q => ?_, fun i => ?_⟩
  · rw [kd_o (by decide) (by decide), h9, sf_row _ (by decide), h8, sf_row _ (by decide), a1]
  · rw [kd_o (by decide) (by decide), h9, sf_row _ (by decide), h8, sf_row _ (by decide), a2]
  · rw [kd_o (by decide) (by decide), h9, sf_row _ (by decide), h8, sf_at]
    exact if_pos ⟨p, q⟩
  · rw [h9, sf_row _ (by decide), h8, sf_row _ (by decide), a3]
  · rw [h9, sf_row _ (by decide), h8, sf_row _ (by decide), a4]
  · rw [kd_o (by decide) (by decide), h9, sf_at]
    exact if_pos ⟨p, q⟩
  · rw [kd_o (by decide) (by decide), h9, sf_row _ (by decide), h8, sf_row _ (by decide), a5]
set_option maxHeartbeats 4000000 in
set_option maxRecDepth 100000 in
theorem c_Plan_init {aK aV : Nat → Nat} {fq B0 : Nat} (l : Launch) (G : GT) (h0 sz : Nat) (hB0 : B0 ≤ h0) : Met l yX2_init wsX2_init (rmc 4 85 5 202) (Kp vwCl G (.inr (.inr (2, [.inr false, .inl 0, .inl 0, .inl 0, .inl 0, .inl 0, .inr false]))) (SX aK aV fq B0 RX2 54) h0 sz) (Kq vwCl G LX2 PX2 h0 sz) 5 202 (Af h0 sz) := by
  refine x_metc (own := RX2) (by decide) rfl rfl rfl (by decide) (by decide) ?_
  intro p e s m args below meth c R QQ A X hin2 hR hA hA2 hZ hret ad0 ls he0 hl hw
  have hAB : ∀ q, A q → B0 ≤ q := fun q h => by
    rcases hA2 q h with z | z
    · rw [z]; exact hB0
    · exact Nat.le_trans hZ.2 z
  obtain ⟨H, hH⟩ : ∃ z, z = s.heap := ⟨_, rfl⟩
  obtain ⟨locs, hlo⟩ : ∃ z : List Loc, z = [] := ⟨_, rfl⟩
  rw [← hH, ← hlo]
  obtain ⟨σ0, hs0⟩ : ∃ z : St, z = fun _ _ => 0 := ⟨_, rfl⟩
  replace hw : Wy vwCl G [.inr (.inr (2, [.inr false, .inl 0, .inl 0, .inl 0, .inl 0, .inl 0, .inr false]))] ad0 A s H locs σ0 := by rw [hH, hlo, hs0]; exact hw
  clear hH hlo
  refine x_aload_n X dX2_init_0 rfl (lv_at hl 0 rfl) ?_
  refine x_obj X hl.1 kX2_init_0 kX2_init_1 kX2_init_2 (x_fr hR.1.1 rfl) (x_fr hR.1.2 rfl) dX2_init_1 ?_
  refine x_aload_n X dX2_init_4 rfl (lv_at hl 0 rfl) ?_
  refine x_iconst X dX2_init_5 ?_
  refine x_puti X hw (o := 0) rfl cX2 0 (by decide) rfl kX2_init_3 kX2_init_4 tyX2 tyX2_ok nmX2 rfl rfl rfl dX2_init_6 (fun H locs σ1 hs1 hw => ?_)
  refine x_aload_n X dX2_init_9 rfl (lv_at hl 0 rfl) ?_
  refine x_bipush X dX2_init_10 (by decide) ?_
  refine x_newi X hw hA (by decide) kX2_init_5 84 (by decide +kernel) rfl (x_fr hR.2.1 rfl) (x_fr hR.2.2 rfl) dX2_init_12 (fun ad2 H e2 hw => ?_)
  rw [← e2 0 (by decide)] at hl
  rw [← e2 0 (by decide)]
  replace he0 : ad2 0 = h0 := (e2 0 (by decide)).trans he0
  obtain ⟨σ2, hs2⟩ : ∃ z, z = sf σ1 1 (fun _ => 0) := ⟨_, rfl⟩
  replace hw : Wy vwCl G [.inr (.inr (2, [.inr false, .inl 0, .inl 0, .inl 0, .inl 0, .inl 0, .inr false])), .inl (false, 84)] ad2 A s H locs σ2 := by rw [hs2]; exact hw
  refine x_putr X hw (o := 0) rfl cX2 1 (by decide) (by decide) 0 kX2_init_3 kX2_init_6 tyX2 tyX2_ok nmX2 rfl hin2 rfl (fun _ => rfl) (fun _ => rfl) dX2_init_14 (fun H locs hw => ?_)
  replace hw : Wy vwCl G [.inr (.inr (2, [.inr false, .inl 1, .inl 0, .inl 0, .inl 0, .inl 0, .inr false])), .inl (false, 84)] ad2 A s H locs σ2 := hw
  refine x_aload_n X dX2_init_17 rfl (lv_at hl 0 rfl) ?_
  refine x_bipush X dX2_init_18 (by decide) ?_
  refine x_newi X hw hA (by decide) kX2_init_5 48 (by decide +kernel) rfl (x_fr hR.2.1 rfl) (x_fr hR.2.2 rfl) dX2_init_20 (fun ad3 H e3 hw => ?_)
  rw [← e3 0 (by decide)] at hl
  rw [← e3 0 (by decide)]
  replace he0 : ad3 0 = h0 := (e3 0 (by decide)).trans he0
  obtain ⟨σ3, hs3⟩ : ∃ z, z = sf σ2 2 (fun _ => 0) := ⟨_, rfl⟩
  replace hw : Wy vwCl G [.inr (.inr (2, [.inr false, .inl 1, .inl 0, .inl 0, .inl 0, .inl 0, .inr false])), .inl (false, 84), .inl (false, 48)] ad3 A s H locs σ3 := by rw [hs3]; exact hw
  refine x_putr X hw (o := 0) rfl cX2 2 (by decide) (by decide) 1 kX2_init_3 kX2_init_7 tyX2 tyX2_ok nmX2 rfl hin2 rfl (fun _ => rfl) (fun _ => rfl) dX2_init_22 (fun H locs hw => ?_)
  replace hw : Wy vwCl G [.inr (.inr (2, [.inr false, .inl 1, .inl 2, .inl 0, .inl 0, .inl 0, .inr false])), .inl (false, 84), .inl (false, 48)] ad3 A s H locs σ3 := hw
  refine x_aload_n X dX2_init_25 rfl (lv_at hl 0 rfl) ?_
  refine x_bipush X dX2_init_26 (by decide) ?_
  refine x_newi X hw hA (by decide) kX2_init_5 6 (by decide +kernel) rfl (x_fr hR.2.1 rfl) (x_fr hR.2.2 rfl) dX2_init_28 (fun ad4 H e4 hw => ?_)
  rw [← e4 0 (by decide)] at hl
  rw [← e4 0 (by decide)]
  replace he0 : ad4 0 = h0 := (e4 0 (by decide)).trans he0
  obtain ⟨σ4, hs4⟩ : ∃ z, z = sf σ3 3 (fun _ => 0) := ⟨_, rfl⟩
  replace hw : Wy vwCl G [.inr (.inr (2, [.inr false, .inl 1, .inl 2, .inl 0, .inl 0, .inl 0, .inr false])), .inl (false, 84), .inl (false, 48), .inl (false, 6)] ad4 A s H locs σ4 := by rw [hs4]; exact hw
  refine x_putr X hw (o := 0) rfl cX2 3 (by decide) (by decide) 2 kX2_init_3 kX2_init_8 tyX2 tyX2_ok nmX2 rfl hin2 rfl (fun _ => rfl) (fun _ => rfl) dX2_init_30 (fun H locs hw => ?_)
  replace hw : Wy vwCl G [.inr (.inr (2, [.inr false, .inl 1, .inl 2, .inl 3, .inl 0, .inl 0, .inr false])), .inl (false, 84), .inl (false, 48), .inl (false, 6)] ad4 A s H locs σ4 := hw
  refine x_aload_n X dX2_init_33 rfl (lv_at hl 0 rfl) ?_
  refine x_bipush X dX2_init_34 (by decide) ?_
  refine x_newi X hw hA (by decide) kX2_init_5 16 (by decide +kernel) rfl (x_fr hR.2.1 rfl) (x_fr hR.2.2 rfl) dX2_init_36 (fun ad5 H e5 hw => ?_)
  rw [← e5 0 (by decide)] at hl
  rw [← e5 0 (by decide)]
  replace he0 : ad5 0 = h0 := (e5 0 (by decide)).trans he0
  obtain ⟨σ5, hs5⟩ : ∃ z, z = sf σ4 4 (fun _ => 0) := ⟨_, rfl⟩
  replace hw : Wy vwCl G [.inr (.inr (2, [.inr false, .inl 1, .inl 2, .inl 3, .inl 0, .inl 0, .inr false])), .inl (false, 84), .inl (false, 48), .inl (false, 6), .inl (false, 16)] ad5 A s H locs σ5 := by rw [hs5]; exact hw
  refine x_putr X hw (o := 0) rfl cX2 4 (by decide) (by decide) 3 kX2_init_3 kX2_init_9 tyX2 tyX2_ok nmX2 rfl hin2 rfl (fun _ => rfl) (fun _ => rfl) dX2_init_38 (fun H locs hw => ?_)
  replace hw : Wy vwCl G [.inr (.inr (2, [.inr false, .inl 1, .inl 2, .inl 3, .inl 4, .inl 0, .inr false])), .inl (false, 84), .inl (false, 48), .inl (false, 6), .inl (false, 16)] ad5 A s H locs σ5 := hw
  refine x_aload_n X dX2_init_41 rfl (lv_at hl 0 rfl) ?_
  refine x_bipush X dX2_init_42 (by decide) ?_
  refine x_newi X hw hA (by decide) kX2_init_5 48 (by decide +kernel) rfl (x_fr hR.2.1 rfl) (x_fr hR.2.2 rfl) dX2_init_44 (fun ad6 H e6 hw => ?_)
  rw [← e6 0 (by decide)] at hl
  rw [← e6 0 (by decide)]
  replace he0 : ad6 0 = h0 := (e6 0 (by decide)).trans he0
  obtain ⟨σ6, hs6⟩ : ∃ z, z = sf σ5 5 (fun _ => 0) := ⟨_, rfl⟩
  replace hw : Wy vwCl G [.inr (.inr (2, [.inr false, .inl 1, .inl 2, .inl 3, .inl 4, .inl 0, .inr false])), .inl (false, 84), .inl (false, 48), .inl (false, 6), .inl (false, 16), .inl (false, 48)] ad6 A s H locs σ6 := by rw [hs6]; exact hw
  refine x_putr X hw (o := 0) rfl cX2 5 (by decide) (by decide) 4 kX2_init_3 kX2_init_10 tyX2 tyX2_ok nmX2 rfl hin2 rfl (fun _ => rfl) (fun _ => rfl) dX2_init_46 (fun H locs hw => ?_)
  replace hw : Wy vwCl G [.inr (.inr (2, [.inr false, .inl 1, .inl 2, .inl 3, .inl 4, .inl 5, .inr false])), .inl (false, 84), .inl (false, 48), .inl (false, 6), .inl (false, 16), .inl (false, 48)] ad6 A s H locs σ6 := hw
  refine x_aload_n X dX2_init_49 rfl (lv_at hl 0 rfl) ?_
  refine x_iconst X dX2_init_50 ?_
  refine x_puti X hw (o := 0) rfl cX2 6 (by decide) rfl kX2_init_3 kX2_init_11 tyX2 tyX2_ok nmX2 rfl rfl rfl dX2_init_51 (fun H locs σ7 hs7 hw => ?_)
  refine x_aload_n X dX2_init_54 rfl (lv_at hl 0 rfl) ?_
  refine x_getr X hw (o := 0) rfl cX2 1 (by decide) (k0 := 0) rfl kX2_init_3 kX2_init_6 dX2_init_55 ?_
  refine x_iconst X dX2_init_58 ?_
  refine x_csv X hw [.ref (ad6 1), iV (-1)] [] (c_fillI l G ad6 hw.2.1.1 1 84 rfl σ7 (-1) (Q := fun u => u = sf σ7 1 (fun i => if 0 ≤ i ∧ i < 84 then -1 else σ7 1 i)) (fillI_ok (by decide) rfl)) (va_cwS 2 X.2.2.2.2 gX2_init_J7_fill_53178 rfl rfl rfl hd_fillI ⟨x_fr hR.1.1 rfl, x_fr hR.1.2 rfl⟩) rfl hl.1 rfl (Nat.le_of_ble_eq_true rfl) dX2_init_59 ⟨x_fr hR.2.1 rfl, x_fr hR.2.2 rfl⟩ (fun σ8 H locs hs8 hw => ?_)
  refine x_aload_n X dX2_init_62 rfl (lv_at hl 0 rfl) ?_
  refine x_getr X hw (o := 0) rfl cX2 4 (by decide) (k0 := 3) rfl kX2_init_3 kX2_init_9 dX2_init_63 ?_
  refine x_sipush X dX2_init_66 (by decide) ?_
  refine x_csv X hw [.ref (ad6 4), iV (200)] [] (c_fillI l G ad6 hw.2.1.1 4 16 rfl σ8 (200) (Q := fun u => u = sf σ8 4 (fun i => if 0 ≤ i ∧ i < 16 then 200 else σ8 4 i)) (fillI_ok (by decide) rfl)) (va_cwS 2 X.2.2.2.2 gX2_init_J7_fill_53178 rfl rfl rfl hd_fillI ⟨x_fr hR.1.1 rfl, x_fr hR.1.2 rfl⟩) rfl hl.1 rfl (Nat.le_of_ble_eq_true rfl) dX2_init_69 ⟨x_fr hR.2.1 rfl, x_fr hR.2.2 rfl⟩ (fun σ9 H locs hs9 hw => ?_)
  refine x_iconst X dX2_init_72 ?_
  refine x_istore_n X [(1, iV 0), (0, .ref (ad6 0))] dX2_init_73 rfl hl (by decide) rfl (fun ls hl => ?_)
  have outer : ∀ (d k : Nat), k + d = 6 → ∀ (H : Heap) (locs : List Loc) (ls : Array Slot), Wy vwCl G [.inr (.inr (2, [.inr false, .inl 1, .inl 2, .inl 3, .inl 4, .inl 5, .inr false])), .inl (false, 84), .inl (false, 48), .inl (false, 6), .inl (false, 16), .inl (false, 48)] ad6 A s H locs (kd σ9 k) → lv_has ls 4 [(1, iV (k : Nat)), (0, .ref (ad6 0))] → W p l e R s m args below meth c H locs 5 202 QQ (F0 m 74 ls []) := by
    intro d
    induction d with
    | zero =>
      intro k hk H locs ls hw hl
      have hk6 : k = 6 := by omega
      subst hk6
      refine x_iload_n X dX2_init_74 rfl (lv_at hl 0 rfl) ?_
      refine x_bipush X dX2_init_75 (by decide) ?_
      refine x_icmp_ge X rfl rfl 133 dX2_init_77 (by decide) (fun hc => ?_) (fun hc => absurd hc (by decide))
      exact hret ad6 (kd σ9 6) H locs ls 133 he0 (finX2 hs9 hs8 (by rw [hs7, hs6, hs5, hs4, hs3, hs2, hs1, hs0]; exact ⟨rfl, rfl, rfl, rfl, rfl⟩)) hw dX2_init_133
    | succ d ih =>
      intro k hk H locs ls hw hl
      have hk6 : k < 6 := by omega
      have ik : i32 (k : Nat) = (k : Nat) := i32_id (by omega) (by omega)
      refine x_iload_n X dX2_init_74 rfl (lv_at hl 0 rfl) ?_
      refine x_bipush X dX2_init_75 (by decide) ?_
      refine x_icmp_ge X ik k32_6 133 dX2_init_77 (by decide) (fun hc => absurd hc (by omega)) (fun hc => ?_)
      refine x_iload_n X dX2_init_80 rfl (lv_at hl 0 rfl) ?_
      refine va_callr (va_runS (As := [iV (k : Nat)]) (rest := []) X (c_firstWord (aK := aK) (aV := aV) (fq := fq) (B0 := B0) l k hk6) (va_cwS 1 X.2.2.2.2 gX2_init_X2_firstWord rfl rfl rfl (by decide +kernel) ⟨x_fr hR.1.1 rfl, x_fr hR.1.2 rfl⟩) ⟨fun a U g mk q => ⟨q.1, SX.bl a U g mk q.2⟩, fun U hU hW => ⟨rfl, hZ.to hAB hw.2.2.2 hU hW⟩⟩ rfl rfl hl.1 rfl (lv_room (Nat.le_of_ble_eq_true rfl)) dX2_init_81 ⟨x_fr hR.2.1 rfl, x_fr hR.2.2 rfl⟩) hw.2.2.2 (fun q _ h => h.elim) (fun q h => h.elim) (fun u ra t H1 locs1 ht hvm hq hB hz hkk hS => ?_)
      have hB : ra = aK k := hB
      subst hB
      replace hw := hw.kept (fun q h => hkk q h (fun z => z)) hS
      refine x_astore_n X [(2, .ref (aK k)), (1, iV (k : Nat)), (0, .ref (ad6 0))] dX2_init_84 rfl hl (by decide) rfl (fun ls hl => ?_)
      refine x_aload_n X dX2_init_85 rfl (lv_at hl 2 rfl) ?_
      refine x_getr X hw (o := 0) rfl cX2 3 (by decide) (k0 := 2) rfl kX2_init_3 kX2_init_8 dX2_init_86 ?_
      refine x_iload_n X dX2_init_89 rfl (lv_at hl 1 rfl) ?_
      refine x_aload_n X dX2_init_90 rfl (lv_at hl 0 rfl) ?_
      refine x_cti X hw hZ.1.1 hAB k hk6 [] [iV (k : Nat), .ref (ad6 3)] (c_length l k hk6) (cwV 0 X.2.2.2.2 gX2_init_J0_length_8abf5 rfl rfl rfl (by decide +kernel) ⟨x_fr hR.1.1 rfl, x_fr hR.1.2 rfl⟩) rfl hl.1 rfl (Nat.le_of_ble_eq_true rfl) dX2_init_91 ⟨x_fr hR.2.1 rfl, x_fr hR.2.2 rfl⟩ (fun H locs hw _ => ?_)
      rw [iV_nat]
      refine x_iast X hw (k0 := 3) (n := 6) rfl ik rfl ⟨by omega, by omega⟩ dX2_init_94 (fun H locs u0 hu0 hw => ?_)
      refine x_iconst X dX2_init_95 ?_
      refine x_istore_n X [(3, iV 0), (2, .ref (aK k)), (1, iV (k : Nat)), (0, .ref (ad6 0))] dX2_init_96 rfl hl (by decide) rfl (fun ls hl => ?_)
      have inner : ∀ (d i : Nat), i + d = lnW k → ∀ (H : Heap) (locs : List Loc) (ls : Array Slot), Wy vwCl G [.inr (.inr (2, [.inr false, .inl 1, .inl 2, .inl 3, .inl 4, .inl 5, .inr false])), .inl (false, 84), .inl (false, 48), .inl (false, 6), .inl (false, 16), .inl (false, 48)] ad6 A s H locs (fl u0 k i) → lv_has ls 4 [(3, iV (i : Nat)), (2, .ref (aK k)), (1, iV (k : Nat)), (0, .ref (ad6 0))] → W p l e R s m args below meth c H locs 5 202 QQ (F0 m 97 ls []) := by
        have hl4 : lnW k ≤ 4 := lnW_4 k hk6
        intro d
        induction d with
        | zero =>
          intro i hi H locs ls hw hl
          have hi' : i = lnW k := by omega
          refine x_iload_n X dX2_init_97 rfl (lv_at hl 0 rfl) ?_
          refine x_aload_n X dX2_init_98 rfl (lv_at hl 1 rfl) ?_
          refine x_cti X hw hZ.1.1 hAB k hk6 [] [iV (i : Nat)] (c_length l k hk6) (cwV 0 X.2.2.2.2 gX2_init_J0_length_8abf5 rfl rfl rfl (by decide +kernel) ⟨x_fr hR.1.1 rfl, x_fr hR.1.2 rfl⟩) rfl hl.1 rfl (Nat.le_of_ble_eq_true rfl) dX2_init_99 ⟨x_fr hR.2.1 rfl, x_fr hR.2.2 rfl⟩ (fun H locs hw _ => ?_)
          rw [iV_nat]
          refine x_icmp_ge X (i32_id (by omega) (by omega)) (i32_id (by omega) (by omega)) 127 dX2_init_102 (by decide) (fun hc => ?_) (fun hc => absurd hc (by omega))
          refine x_iinc X (k := 2) ((k : Nat) + 1) [(1, iV ((k : Nat) + 1)), (3, iV (i : Nat)), (2, .ref (aK k)), (0, .ref (ad6 0))] dX2_init_127 hl rfl rfl (by decide) rfl (fun ls hl => ?_)
          refine x_goto X 74 dX2_init_130 (by decide) ?_
          rw [hi', hu0] at hw
          exact ih (k + 1) (by omega) H locs ls hw (lv_sub hl [0, 3] rfl)
        | succ d ih2 =>
          intro i hi H locs ls hw hl
          have hil : i < lnW k := by omega
          refine x_iload_n X dX2_init_97 rfl (lv_at hl 0 rfl) ?_
          refine x_aload_n X dX2_init_98 rfl (lv_at hl 1 rfl) ?_
          refine x_cti X hw hZ.1.1 hAB k hk6 [] [iV (i : Nat)] (c_length l k hk6) (cwV 0 X.2.2.2.2 gX2_init_J0_length_8abf5 rfl rfl rfl (by decide +kernel) ⟨x_fr hR.1.1 rfl, x_fr hR.1.2 rfl⟩) rfl hl.1 rfl (Nat.le_of_ble_eq_true rfl) dX2_init_99 ⟨x_fr hR.2.1 rfl, x_fr hR.2.2 rfl⟩ (fun H locs hw _ => ?_)
          rw [iV_nat]
          refine x_icmp_ge X (i32_id (by omega) (by omega)) (i32_id (by omega) (by omega)) 127 dX2_init_102 (by decide) (fun hc => absurd hc (by omega)) (fun hc => ?_)
          refine x_aload_n X dX2_init_105 rfl (lv_at hl 3 rfl) ?_
          refine x_getr X hw (o := 0) rfl cX2 2 (by decide) (k0 := 1) rfl kX2_init_3 kX2_init_7 dX2_init_106 ?_
          refine x_iload_n X dX2_init_109 rfl (lv_at hl 2 rfl) ?_
          refine x_bipush X dX2_init_110 (by decide) ?_
          refine x_imul X dX2_init_112 ?_
          refine x_iload_n X dX2_init_113 rfl (lv_at hl 0 rfl) ?_
          refine x_iadd X dX2_init_114 ?_
          refine x_aload_n X dX2_init_115 rfl (lv_at hl 1 rfl) ?_
          refine x_iload_n X dX2_init_116 rfl (lv_at hl 0 rfl) ?_
          have hC := c_charAt (aK := aK) (aV := aV) (fq := fq) (B0 := B0) l k i hk6 hil
          rw [iV_nat] at hC
          refine x_cti X hw hZ.1.1 hAB k hk6 [iV (i : Nat)] [iV ((k : Nat) * 8 + (i : Nat)), .ref (ad6 2)] hC (cwV 1 X.2.2.2.2 gX2_init_J0_charAt_5068e rfl rfl rfl (by decide +kernel) ⟨x_fr hR.1.1 rfl, x_fr hR.1.2 rfl⟩) rfl hl.1 rfl (Nat.le_of_ble_eq_true rfl) dX2_init_117 ⟨x_fr hR.2.1 rfl, x_fr hR.2.2 rfl⟩ (fun H locs hw _ => ?_)
          rw [iV_i32]
          refine x_iast X hw (k0 := 2) (n := 48) rfl (i32_id (by omega) (by omega)) rfl ⟨by omega, by omega⟩ dX2_init_120 (fun H locs u1 hu1 hw => ?_)
          refine x_iinc X (k := 0) ((i : Nat) + 1) [(3, iV ((i : Nat) + 1)), (2, .ref (aK k)), (1, iV (k : Nat)), (0, .ref (ad6 0))] dX2_init_121 hl rfl rfl (by decide) rfl (fun ls hl => ?_)
          refine x_goto X 97 dX2_init_124 (by decide) ?_
          rw [hu1] at hw
          exact ih2 (i + 1) (by omega) H locs ls hw hl
      exact inner (lnW k) 0 (by omega) H locs ls hw hl
  exact outer 6 0 rfl H locs ls hw hl
