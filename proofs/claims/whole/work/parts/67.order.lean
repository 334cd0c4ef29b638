-- ORDER: the reference
theorem Morder_ok {τ : St} {S : List GR} {r0 i : Nat} {a1 a2 : Int} {Q : Int → St → Prop} (hG : GM τ S) (hO : gOk S) (hB : gB S) (hs : gSort S) (hl : S.length ≤ 20) (h1 : a1 = r0) (h2 : a2 = i) (h0 : r0 < wyD S 0) (hi : i < S.length) (k : ∀ (D r s : Nat) (τ' : St), isOr S r0 (i + 1) D r s → frm wyK [] τ τ' → Q s τ') : V_M_order τ a1 a2 Q := by
  have p20 : (2 : Nat) ^ S.length ≤ 2 ^ 20 := Nat.pow_le_pow_right (by decide) hl
  have p20' : (2 : Nat) ^ 20 = 1048576 := by decide
  have p40 : ∀ m D, m ≤ 20 → cl S D → wyS S m D ≤ 1099511627776 := fun m D hm hD => wyS_40 hO hB hs hl hm (cl_lpre hO hB hs hD)
  have r40 : wyD S 0 ≤ 1099511627776 := p40 _ _ (by omega) (cl_0 S)
  subst h1
  subst h2
  unfold V_M_order
  rw [hG.1, i32_id (x := (i : Int)) (by omega) (by omega), i32_id (x := (S.length : Int) - 1) (by omega) (by omega)]
  refine in_ok (i64_id (by omega) (by omega)) k64_0 (i64_id (by omega) (by omega)) (fun _ => ⟨fun _ => ?_, fun z => absurd z n10⟩) (fun z => absurd z (by omega))
  rw [hG.1, i32_id (x := (S.length : Int)) (by omega) (by omega)]
  refine ⟨fun _ => ?_, fun z => absurd z (by omega)⟩
  refine Mforgets_ok (S := S) (fun t1 f1 T1 => ?_)
  rw [i64_id (x := (r0 : Int)) (by omega) (by omega)]
  refine ⟨fun z => absurd z (by omega), fun _ => ⟨S.length + 1, by omega, ?_⟩⟩
  refine Mways_ok hO hB hs hl _ (D := 0) (GM_wy hG f1) T1 (cl_0 _) (by rw [pc_0]; omega) (fun t2 f2 T2 _ => ?_)
  rw [i64_id (x := ((wyD S 0 : Nat) : Int)) (by omega) (by omega)]
  refine ⟨fun _ => ?_, fun z => absurd z (by omega)⟩
  refine wl4 (fun x8 x7 x6 x4 u => ∃ (q D r : Nat), q ≤ i + 1 ∧ x8 = q ∧ x6 = D ∧ x4 = r ∧ frm wyK [] τ u ∧ HT u S ∧ ∃ l : Nat, (0 < q → x7 = l) ∧ isOr S r0 q D r l) (fun x8 _ _ _ _ => ((i : Int) + 1 - x8).toNat) ⟨0, 0, r0, by omega, rfl, rfl, rfl, f1.tr f2, T2, 0, fun z => by omega, rfl, rfl⟩ ?_
  intro bk x8 x7 x6 x4 u hI hb
  obtain ⟨q, D, r, hq, rfl, rfl, rfl, uf, uT, l, hl7, hor⟩ := hI
  rw [i32_id (x := (q : Int)) (by omega) (by omega)]
  refine ⟨fun hc => ?_, fun hc => ?_⟩
  · have e : q = i + 1 := by omega
    rw [hl7 (by omega)]
    rw [e] at hor
    exact k _ _ _ u hor uf
  · obtain ⟨c1, c2, c3⟩ := isOr_ok h0 q (by omega) hor
    have hd1 := c1.1
    have hb31 : D < 2 ^ 31 := by omega
    obtain ⟨m, hm⟩ : ∃ m, m + 1 = S.length - q := ⟨S.length - q - 1, by omega⟩
    rw [← hm, wyS_s] at c3
    have hm' : m + 1 = S.length - pcS D S.length := by omega
    have rb : r < 1099511627776 * 20 := by
      have := p40 (m + 1) D (by omega) c1
      rw [wyS_s] at this
      omega
    refine wl3 (fun x9 y7 y4 v => frm wyK [] τ v ∧ HT v S ∧ ((x9 = 0 ∧ ∃ s y : Nat, s ≤ S.length ∧ y7 = (s : Int) - 1 ∧ y4 = y ∧ sumN (wF S m D) s + y = r) ∨ (x9 = 1 ∧ ∃ s y : Nat, y7 = s ∧ y4 = y ∧ isPk S m D r s y))) (fun x9 y7 _ _ => if x9 = 0 then (S.length + 1 - y7).toNat else 0) ⟨uf, uT, Or.inl ⟨rfl, 0, r, by omega, by omega, rfl, Nat.zero_add _⟩⟩ ?_
    intro bk2 x9 y7 y4 v hI2 hb2
    obtain ⟨vf, vT, hcase⟩ := hI2
    have vG := GM_wy hG vf
    rcases hcase with ⟨rfl, s, y, hsl, rfl, rfl, hy⟩ | ⟨rfl, s, y, rfl, rfl, hpk⟩
    · refine ⟨fun z => absurd z00 z, fun _ => ?_⟩
      have hsl2 : s < S.length := by
        refine Nat.lt_of_le_of_ne hsl (fun c => ?_)
        rw [c] at hy
        omega
      rw [show (s : Int) - 1 + 1 = s by omega, ibit32 hb31 (by omega), i32_id (x := (s : Int)) (by omega) (by omega)]
      have skip : freeB S D s = false → bk2 0 (s : Int) (y : Int) v := fun hf => hb2 _ _ _ _ ⟨vf, vT, Or.inl ⟨rfl, s + 1, y, by omega, by omega, rfl, by
        show sumN (wF S m D) s + wF S m D s + y = r
        rw [show wF S m D s = 0 by unfold wF; rw [hf]; rfl]
        omega⟩⟩ (by simp only [if_true]; omega)
      cases hbit : D.testBit s with
      | true =>
        refine ⟨fun _ => skip (freeB_no (fun z => ?_)), fun z => absurd rfl z⟩
        have := z.1
        rw [show ((s : Int)).toNat = s by omega, hbit] at this
        cases this
      | false =>
        refine ⟨fun z => absurd z (by decide), fun _ => ⟨⟨by omega, by omega⟩, ?_⟩⟩
        obtain ⟨g1, g2⟩ := GM_b vG hB (by omega) (a := (s : Int)) (by omega) (by omega)
        have p := p48
        rw [g1]
        have iff1 := isub_ok (a := bS S (s : Int)) (b := D) (by omega) hb31
        refine ⟨fun z => ?_, fun z => skip (freeB_no (fun w => z (iff1.mpr w.2)))⟩
        have hf : freeB S D s = true := freeB_iff.mpr ⟨by rw [show ((s : Int)).toNat = s by omega]; exact hbit, iff1.mp z⟩
        have h2s : (2 : Nat) ^ s < 2 ^ 31 := Nat.pow_lt_pow_right (by decide) (by omega)
        have cl2 := cl_add c1 hsl2 hf
        rw [ish1_ok (by omega), iro_ok hb31 h2s]
        refine ⟨m + 1, by omega, ?_⟩
        refine Mways_ok hO hB hs hl m vG vT cl2 (by rw [pc_add hsl2 hbit]; omega) (fun w wf wT _ => ?_)
        rw [← wF_D hsl2 hf hm']
        have wb : wF S m D s ≤ 1099511627776 := by
          unfold wF
          rw [hf]
          exact p40 m _ (by omega) cl2
        rw [i64_id (x := ((wF S m D s : Nat) : Int)) (by omega) (by omega), i64_id (x := (y : Int)) (by omega) (by omega)]
        refine ⟨fun hle => ?_, fun hlt => ?_⟩
        · unfold J_M_order_156
          refine ⟨fun _ y' hy' => ?_, fun z => absurd z00 z⟩
          rw [show (s : Int) - 1 + 1 = s by omega]
          refine hb2 _ _ _ _ ⟨vf.tr wf, wT, Or.inl ⟨rfl, s + 1, y - wF S m D s, by omega, by omega, by omega, ?_⟩⟩ (by simp only [if_true]; omega)
          show sumN (wF S m D) s + wF S m D s + (y - wF S m D s) = r
          omega
        · unfold J_M_order_156
          refine ⟨fun z => absurd z n10, fun _ y' hy' => ?_⟩
          rw [show (s : Int) - 1 + 1 = s by omega]
          refine hb2 _ _ _ _ ⟨vf.tr wf, wT, Or.inr ⟨rfl, s, y, rfl, by omega, hsl2, hf, hy, by omega⟩⟩ ?_
          rw [if_neg (by decide), if_pos rfl]
          omega
    · refine ⟨fun _ z6 hz6 => ?_, fun z => absurd z n10⟩
      have hp2 : (2 : Nat) ^ s < 2 ^ 31 := Nat.pow_lt_pow_right (by decide) (by have := hpk.1; omega)
      rw [ish1_ok (by have := hpk.1; omega), iro_ok hb31 hp2] at hz6
      refine hb _ _ _ _ _ ⟨q + 1, D ||| 2 ^ s, y, by omega, by omega, hz6, rfl, vf, vT, s, fun _ => rfl, D, r, l, hor, ?_, rfl⟩ (by omega)
      rw [show S.length - (q + 1) = m by omega]
      exact hpk
theorem op_order {σ τ : St} (hR : Rel σ τ) {a1 a2 : Int} (r1 : i64 a1 = a1) (r2 : i32 a2 = a2) : V_P_order σ a1 a2 (fun r σ' => V_M_order τ a1 a2 (fun r' τ' => i32 r = i32 r' ∧ Rel σ' τ')) := by
  obtain ⟨p1, p2, p3, p4, p5, p6, p7, p8⟩ := hR.2
  obtain ⟨o1, o2, o3, o4⟩ := stS_ok p1
  obtain ⟨S, hS⟩ : ∃ S, S = stS (τ 1) := ⟨_, rfl⟩
  have p3' := p3
  rw [← hS] at p3 p4 o1 o2 o3 o4
  have hL5 : i32 (τ 0 5) = S.length := by rw [p4.1]; exact i32_id (by omega) (by omega)
  unfold V_P_order
  rw [r1, r2]
  refine isStitch_ok p3 o2 (i64_of32 r2) (fun hc => ⟨fun _ => ?_, fun z => absurd z n10⟩) (fun hc => ⟨fun z => absurd z00 z, fun _ => ?_⟩)
  rotate_left
  · refine both_fail (e := -1000000001) hR (by decide) (by decide) (by decide) (VM := fun τ Q => V_M_order τ a1 a2 Q) (fun Q hQ => ?_)
    unfold V_M_order
    rw [r2, p4.1, i32_id (x := (S.length : Int) - 1) (by omega) (by omega)]
    exact in_ok (i64_of32 r2) k64_0 (i64_id (by omega) (by omega)) (fun z => absurd z (by omega)) (fun _ => ⟨fun z => absurd z00 z, fun _ => hQ⟩)
  rw [p3.1, i32_id (x := (S.length : Int)) (by omega) (by omega)]
  refine ⟨fun h20 => ?_, fun h20 => ?_⟩
  rotate_left
  · refine both_fail (e := -1000000004) hR (by decide) (by decide) (by decide) (VM := fun τ Q => V_M_order τ a1 a2 Q) (fun Q hQ => ?_)
    unfold V_M_order
    rw [r2, p4.1, i32_id (x := (S.length : Int) - 1) (by omega) (by omega)]
    exact in_ok (i64_of32 r2) k64_0 (i64_id (by omega) (by omega)) (fun _ => ⟨fun _ => ⟨fun z => absurd z (by rw [hL5]; omega), fun _ => hQ⟩, fun z => absurd z n10⟩) (fun z => absurd z (by omega))
  have hl : S.length ≤ 20 := by omega
  have r40 : wyD S 0 ≤ 1099511627776 := wyS_40 o1 o3 o4 hl (by omega) (cl_lpre o1 o3 o4 (cl_0 S))
  refine reckon_ok p1 p3' (by rw [← hS]; exact hl) p8 (fun σ' f h1 hw => ?_)
  have hR' := hR.wy f h1 hw
  rw [← hS] at hw
  rw [WY_0 hw, i64_id (x := ((wyD S 0 : Nat) : Int)) (by omega) (by omega)]
  have p3s : GC σ' S := p3.fe (fun k a b => f k (by omega))
  have bad : ¬ (0 ≤ a1 ∧ a1 < (wyD S 0 : Nat)) → V_P_fail σ' 2 (fun r σ' => V_M_order τ a1 a2 (fun r' τ' => i32 r = i32 r' ∧ Rel σ' τ')) := by
    intro hb
    refine fail_ok (by decide) (by decide) ?_
    unfold V_M_order
    rw [r1, r2, p4.1, i32_id (x := (S.length : Int) - 1) (by omega) (by omega)]
    refine in_ok (i64_of32 r2) k64_0 (i64_id (by omega) (by omega)) (fun _ => ⟨fun _ => ⟨fun _ => ?_, fun z => absurd z (by rw [hL5]; omega)⟩, fun z => absurd z n10⟩) (fun z => absurd z (by omega))
    refine Mforgets_ok (S := S) (fun t1 f1 T1 => ?_)
    have f1s : frm scK scJ τ t1 := f1.mono (by decide) (by decide)
    refine ⟨fun _ => errs_ok (k := 2) (by decide) (by decide) (by decide) ⟨rfl, (hR'.fm f1s).err (by decide) (by decide)⟩, fun hp => ⟨S.length + 1, by omega, ?_⟩⟩
    refine Mways_ok o1 o3 o4 hl _ (D := 0) (GM_wy p4 f1) T1 (cl_0 _) (by rw [pc_0]; omega) (fun t2 f2 T2 _ => ?_)
    have f2s : frm scK scJ t1 t2 := f2.mono (by decide) (by decide)
    rw [i64_id (x := ((wyD S 0 : Nat) : Int)) (by omega) (by omega)]
    exact ⟨fun z => absurd ⟨hp, z⟩ hb, fun _ => errs_ok (k := 2) (by decide) (by decide) (by decide) ⟨rfl, (hR'.fm (f1s.tr f2s)).err (by decide) (by decide)⟩⟩
  refine ⟨fun hn => bad (by omega), fun hp => ⟨fun hlt => ?_, fun hge => bad (by omega)⟩⟩
  obtain ⟨r0, hr0⟩ : ∃ n : Nat, a1 = n := ⟨a1.toNat, by omega⟩
  obtain ⟨i, hi⟩ : ∃ n : Nat, a2 = n := ⟨a2.toNat, by omega⟩
  have k1 : ∀ D r s, isOr S r0 (i + 1) D r s → V_M_order τ a1 a2 (fun r' τ' => i32 (s : Nat) = i32 r' ∧ Rel σ' τ') := by
    intro D r s hor
    refine Morder_ok p4 o1 o3 o4 hl hr0 hi (by omega) (by omega) (fun D' r' s' τ' hor' f' => ?_)
    obtain ⟨-, -, e⟩ := isOr_uq _ hor hor'
    rw [e (by omega)]
    exact ⟨rfl, hR'.fm (f'.mono (by decide) (by decide))⟩
  subst hr0
  subst hi
  exact stitchOf_ok p3s o1 o3 o4 hw (by omega) (by omega) (fun D r s hor => k1 D r s hor)
