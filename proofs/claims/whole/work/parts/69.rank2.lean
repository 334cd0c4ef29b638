-- RANK: both
theorem km1_64 : i64 (-1) = -1 := by decide +kernel
theorem op_rank {σ τ : St} (hR : Rel σ τ) {a1 : Int} (r1 : i32 a1 = a1) : V_P_rank σ a1 (fun r σ' => V_M_rank τ a1 (fun r' τ' => i64 r = i64 r' ∧ Rel σ' τ')) := by
  obtain ⟨p1, p2, p3, p4, p5, p6, p7, p8⟩ := hR.2
  obtain ⟨o1, o2, o3, o4⟩ := stS_ok p1
  obtain ⟨S, hS⟩ : ∃ S, S = stS (τ 1) := ⟨_, rfl⟩
  have p3' := p3
  rw [← hS] at p3 p4 o1 o2 o3 o4
  have hL5 : i32 (τ 0 5) = S.length := by rw [p4.1]; exact i32_id (by omega) (by omega)
  unfold V_P_rank
  refine isSheet_ok r1 (fun h1 => ⟨fun _ => ?_, fun w => absurd w n10⟩) (fun h1 => ⟨fun w => absurd z00 w, fun _ => ?_⟩)
  rotate_left
  · refine both_failL (e := -1000000001) hR (by decide) (by decide) (by decide) (VM := fun τ Q => V_M_rank τ a1 Q) (fun Q hQ => ?_)
    unfold V_M_rank
    exact MisSheet_ok r1 (fun z => absurd z h1) (fun _ => ⟨fun z => absurd z00 z, fun _ => hQ⟩)
  rw [p3.1, i32_id (x := (S.length : Int)) (by omega) (by omega), r1]
  refine ⟨fun h20 => ⟨h1, fun q hq => ?_⟩, fun h20 => ?_⟩
  rotate_left
  · refine both_failL (e := -1000000004) hR (by decide) (by decide) (by decide) (VM := fun τ Q => V_M_rank τ a1 Q) (fun Q hQ => ?_)
    unfold V_M_rank
    exact MisSheet_ok r1 (fun _ => ⟨fun _ => ⟨fun z => absurd z (by rw [hL5]; omega), fun _ => hQ⟩, fun z => absurd z n10⟩) (fun z => absurd h1 z)
  have hl : S.length ≤ 20 := by omega
  obtain ⟨i, hi⟩ : ∃ i : Nat, a1 = i := ⟨a1.toNat, by omega⟩
  have hq' : q = 57 + 2 * i := by omega
  subst hq'
  obtain ⟨s1, s2, s3, s4⟩ := hR.1.2.1 i (by omega)
  rw [← hi] at s1 s2 s3 s4
  rw [s1, i32_id (x := τ 24 a1) (by omega) (by omega)]
  refine ⟨fun hne => ?_, fun he => ?_⟩
  rotate_left
  · refine both_failL (e := -1000000007) hR (by decide) (by decide) (by decide) (VM := fun τ Q => V_M_rank τ a1 Q) (fun Q hQ => ?_)
    unfold V_M_rank
    refine MisSheet_ok r1 (fun _ => ⟨fun _ => ⟨fun _ => ?_, fun z => absurd z (by rw [hL5]; omega)⟩, fun z => absurd z n10⟩) (fun z => absurd h1 z)
    rw [r1, i32_id (x := τ 24 a1) (by omega) (by omega)]
    exact ⟨h1, fun z => absurd z (by omega), fun _ => hQ⟩
  obtain ⟨z1, z2, z3, z4⟩ := s4 (by omega)
  refine reckon_ok p1 p3' (by rw [← hS]; exact hl) p8 (fun σ' f h23 hw => ⟨h1, fun q hq => ?_⟩)
  have hq' : q = 57 + 2 * i := by omega
  subst hq'
  have hR' := hR.wy f h23 hw
  rw [← hS] at hw
  have p3s : GC σ' S := p3.fe (fun k a b => f k (by omega))
  have e57 : σ' (57 + 2 * i) = σ (57 + 2 * i) := f _ (by omega)
  have e58 : σ' (57 + 2 * i + 1) = σ (58 + 2 * i) := by rw [f _ (by omega), show 57 + 2 * i + 1 = 58 + 2 * i by omega]
  have hM : ∀ Q : Int → St → Prop, V_M_rankOf τ a1 (fun r4 σ3 => (0 ≤ i64 r4 → Q r4 σ3) ∧ (i64 r4 < 0 → V_M_errsLong σ3 (-1000000003) (fun r6 σ5 => Q r6 σ5))) → V_M_rank τ a1 Q := by
    intro Q hQ
    unfold V_M_rank
    refine MisSheet_ok r1 (fun _ => ⟨fun _ => ⟨fun _ => ?_, fun z => absurd z (by rw [hL5]; omega)⟩, fun z => absurd z n10⟩) (fun z => absurd h1 z)
    rw [r1, i32_id (x := τ 24 a1) (by omega) (by omega)]
    exact ⟨h1, fun _ => hQ, fun z => absurd z (by omega)⟩
  by_cases hsz : τ 25 a1 = S.length
  · refine numberOf_ok (T := fun k => τ 26 (60 * a1 + k)) p3s o1 o3 o4 hw (by rw [e57, z1, hsz]) (fun k hk => ?_) (fun res hres => ?_)
    · have := z4 k (by omega) (by omega)
      rw [e58]
      exact ⟨this.1, this.2⟩
    · have hrr := rkR_rng o1 o3 o4 hl hres
      rw [i64_id (x := res) (by omega) (by omega)]
      refine ⟨fun hc => hM _ ?_, fun hc => ?_⟩
      · refine MrankOf_ok (T := fun k => τ 26 (60 * a1 + k)) p4 o1 o3 o4 hl h1.1 h1.2 hsz (fun k hk => ⟨rfl, (z4 k (by omega) (by omega)).2⟩) (fun res' τ' hres' f' => ?_)
        have e := rkR_uq hres hres'
        subst e
        have : i64 res = res := i64_id (by omega) (by omega)
        exact ⟨fun _ => ⟨rfl, hR'.fm (f'.mono (by decide) (by decide))⟩, fun z => absurd z (by omega)⟩
      · refine failLong_ok (by decide) (by decide) (hM _ ?_)
        refine MrankOf_ok (T := fun k => τ 26 (60 * a1 + k)) p4 o1 o3 o4 hl h1.1 h1.2 hsz (fun k hk => ⟨rfl, (z4 k (by omega) (by omega)).2⟩) (fun res' τ' hres' f' => ?_)
        have e := rkR_uq hres hres'
        subst e
        have : i64 res = res := i64_id (by omega) (by omega)
        exact ⟨fun z => absurd z (by omega), fun _ => errsLong_ok (k := 3) (by decide) (by decide) (by decide) ⟨rfl, (hR'.fm (f'.mono (by decide) (by decide))).err (by decide) (by decide)⟩⟩
  · unfold V_Ways_numberOf
    rw [e57, z1, p3s.1, i32_id (x := (S.length : Int)) (by omega) (by omega), i32_id (x := τ 25 a1) (by omega) (by omega)]
    refine ⟨fun z => absurd z hsz, fun _ => ⟨fun z => absurd z (by rw [km1_64]; decide), fun _ => ?_⟩⟩
    refine failLong_ok (by decide) (by decide) (hM _ ?_)
    unfold V_M_rankOf
    rw [r1, hL5, i32_id (x := τ 25 a1) (by omega) (by omega)]
    refine ⟨h1, fun z => absurd z hsz, fun _ => ⟨fun z => absurd z (by rw [km1_64]; decide), fun _ => ?_⟩⟩
    exact errsLong_ok (k := 3) (by decide) (by decide) (by decide) ⟨rfl, hR'.err (by decide) (by decide)⟩
