theorem RelP.fc {σ σ' τ : St} (h : RelP σ τ) (e : ∀ k, (1 ≤ k ∧ k ≤ 6) ∨ (16 ≤ k ∧ k ≤ 21) ∨ (23 ≤ k ∧ k ≤ 52) → σ' k = σ k) (e8 : σ' 0 8 = σ 0 8) (e9 : σ' 0 9 = σ 0 9) : RelP σ' τ := by
  obtain ⟨p1, p2, p3, p4, p5, p6, p7, p8⟩ := h
  refine ⟨p1, p2.fr (fun k a b => e k (by omega)), p3.fe (fun k a b => e k (by omega)), p4, p5.fe (fun k a b => e k (by omega)), by rw [e9]; exact p6, ?_, ?_⟩
  · unfold thR
    rw [e8]
    rcases p7 with q | ⟨q1, q2, q3⟩
    · exact Or.inl q
    · exact Or.inr ⟨q1, q2, q3.fe (fun k a b => e k (by omega))⟩
  · unfold wyR
    rw [e 23 (by omega)]
    rcases p8 with q | ⟨q1, q2⟩
    · exact Or.inl q
    · exact Or.inr ⟨q1, q2.fe (fun k a b => e k (by omega))⟩
theorem imgR.fe {σ σ' τ τ' : St} (h : imgR σ τ) (e : ∀ k, 7 ≤ k → k ≤ 15 → σ' k = σ k) (e0 : σ' 0 3 = σ 0 3) (e2 : τ' 2 = τ 2) (e3 : τ' 0 3 = τ 0 3) : imgR σ' τ' := by
  unfold imgR
  rw [e0, e2, e3]
  rcases h with q | ⟨q1, q2, q3, q4, q5⟩
  · exact Or.inl q
  · exact Or.inr ⟨q1, q2, q3, q4.fr (fun k a b => e k (by omega) (by omega)), q5.fe (fun k a b => e k (by omega) (by omega))⟩
theorem both_failL {σ τ : St} (hR : Rel σ τ) {k e : Int} (hk : 0 ≤ k) (hk2 : k < 8) (he : e = -1000000000 - k) {VM : St → (Int → St → Prop) → Prop} (hVM : ∀ Q : Int → St → Prop, V_M_errsLong τ e Q → VM τ Q) : V_P_failLong σ k (fun r σ' => VM τ (fun r' τ' => i64 r = i64 r' ∧ Rel σ' τ')) :=
  failLong_ok hk hk2 (hVM _ (errsLong_ok hk hk2 he ⟨rfl, hR.err hk hk2⟩))
/-- a sheet is told anew: only its own cells change -/
theorem Rel.sheet {σ σ' τ τ' : St} (hR : Rel σ τ) {n : Nat} (hn : n < 4) (eC : ∀ k, k ≠ 57 + 2 * n → k ≠ 58 + 2 * n → σ' k = σ k) (eM : ∀ k, k ≠ 24 → k ≠ 25 → k ≠ 26 → τ' k = τ k) (e24 : ∀ i : Nat, i < 4 → i ≠ n → τ' 24 i = τ 24 i ∧ τ' 25 i = τ 25 i ∧ ∀ k, 0 ≤ k → k < 60 → τ' 26 (60 * i + k) = τ 26 (60 * i + k))
    (hs : σ' (57 + 2 * n) 0 = τ' 24 n ∧ -1 ≤ τ' 24 n ∧ τ' 24 n ≤ 3 ∧ (0 ≤ τ' 24 n → σ' (57 + 2 * n) 1 = τ' 25 n ∧ 0 ≤ τ' 25 n ∧ τ' 25 n ≤ 60 ∧ ∀ k, 0 ≤ k → k < 60 → σ' (58 + 2 * n) k = τ' 26 (60 * n + k) ∧ i64 (τ' 26 (60 * n + k)) = τ' 26 (60 * n + k))) : Rel σ' τ' := by
  obtain ⟨⟨a1, a2, a3, a4⟩, p⟩ := hR
  refine ⟨⟨?_, fun i hi => ?_, ?_, ?_⟩, ?_⟩
  · unfold tapeR
    rw [eC 53 (by omega) (by omega), eC 54 (by omega) (by omega), eM 0 (by decide) (by decide) (by decide), eM 10 (by decide) (by decide) (by decide)]
    exact a1
  · by_cases c : i = n
    · subst c; exact hs
    · obtain ⟨z1, z2, z3⟩ := e24 i hi c
      rw [eC (57 + 2 * i) (by omega) (by omega), eC (58 + 2 * i) (by omega) (by omega), z1, z2]
      obtain ⟨b1, b2, b3, b4⟩ := a2 i hi
      refine ⟨b1, b2, b3, fun h => ?_⟩
      obtain ⟨c1, c2, c3, c4⟩ := b4 h
      refine ⟨c1, c2, c3, fun k x y => ?_⟩
      rw [z3 k x y]
      exact c4 k x y
  · unfold errR
    rw [eC 56 (by omega) (by omega), eM 4 (by decide) (by decide) (by decide)]
    exact a3
  · exact a4.fe (fun k a b => eC k (by omega) (by omega)) (by rw [eC 0 (by omega) (by omega)]) (eM 2 (by decide) (by decide) (by decide)) (by rw [eM 0 (by decide) (by decide) (by decide)])
  · refine RelP.fm (τ := τ) ?_ (eM 1 (by decide) (by decide) (by decide)) (by rw [eM 0 (by decide) (by decide) (by decide)]) (fun k a b => eM k (by omega) (by omega) (by omega))
    exact p.fc (fun k h => eC k (by omega) (by omega)) (by rw [eC 0 (by omega) (by omega)]) (by rw [eC 0 (by omega) (by omega)])
theorem op_sheet {σ τ : St} (hR : Rel σ τ) {a1 a2 a3 : Int} (r1 : i32 a1 = a1) (r2 : i32 a2 = a2) (r3 : i32 a3 = a3) : V_P_sheet σ a1 a2 a3 (fun r σ' => V_M_sheet τ a1 a2 a3 (fun r' τ' => i32 r = i32 r' ∧ Rel σ' τ')) := by
  have c3 : i64 3 = 3 := i64_id (by decide) (by decide)
  have cm1 : i64 (-1) = -1 := i64_id (by decide) (by decide)
  have bad1 : ¬ (0 ≤ a1 ∧ a1 < 4 ∧ -1 ≤ a2 ∧ a2 ≤ 3) → V_P_fail σ 1 (fun r σ' => V_M_sheet τ a1 a2 a3 (fun r' τ' => i32 r = i32 r' ∧ Rel σ' τ')) := by
    intro hc
    refine both_fail (e := -1000000001) hR (by decide) (by decide) (by decide) (VM := fun τ Q => V_M_sheet τ a1 a2 a3 Q) (fun Q hQ => ?_)
    unfold V_M_sheet
    refine MisSheet_ok r1 (fun z => ⟨fun w => absurd w n10, fun _ => ?_⟩) (fun _ => ⟨fun _ => hQ, fun w => absurd z00 w⟩)
    rw [r2]
    exact in_ok (i64_of32 r2) cm1 c3 (fun y => absurd (by omega) hc) (fun _ => ⟨fun w => absurd z00 w, fun _ => hQ⟩)
  unfold V_P_sheet
  refine isSheet_ok r1 (fun h1 => ⟨fun w => absurd w n10, fun _ => ?_⟩) (fun h1 => ⟨fun _ => bad1 (by omega), fun w => absurd z00 w⟩)
  rw [r1, r2, r3]
  obtain ⟨n, hn⟩ : ∃ n : Nat, a1 = n := ⟨a1.toNat, by omega⟩
  -- the reference's own way to its end
  have mgo : ∀ (Q : Int → St → Prop), -1 ≤ a2 → a2 ≤ 3 → (0 ≤ a2 → 0 ≤ a3 ∧ a3 ≤ 60) → (∀ τ', (∀ k, k ≠ 24 → k ≠ 25 → k ≠ 26 → τ' k = τ k) → τ' 24 = (fun j => if j = a1 then a2 else τ 24 j) → τ' 25 = (fun j => if j = a1 then (if 0 ≤ a2 then a3 else 0) else τ 25 j) → τ' 26 = (fun j => if 60 * a1 ≤ j ∧ j < 60 * a1 + 60 then 0 else τ 26 j) → Q 1 τ') → V_M_sheet τ a1 a2 a3 Q := by
    intro Q q1 q2 q3 hQ
    unfold V_M_sheet
    refine MisSheet_ok r1 (fun _ => ⟨fun w => absurd w n10, fun _ => ?_⟩) (fun w => absurd h1 w)
    rw [r2, r3]
    have j81 : ∀ t9 : St, t9 = ss τ 24 a1 a2 → J_M_sheet_81 a1 Q (if 0 ≤ a2 then a3 else 0) t9 := by
      intro t9 h9
      unfold J_M_sheet_81
      rw [r1]
      refine ⟨h1, fun t12 h12 => ?_⟩
      refine wl1 (fun i u => 0 ≤ i ∧ i ≤ 60 ∧ (∀ k, k ≠ 26 → u k = t12 k) ∧ u 26 = (fun j => if 60 * a1 ≤ j ∧ j < 60 * a1 + i then 0 else τ 26 j)) (fun i _ => (60 - i).toNat) ⟨by omega, by omega, fun _ _ => rfl, ?_⟩ ?_
      · rw [h12, ss_row _ (by decide), h9, ss_row _ (by decide)]
        funext j
        rw [if_neg (by omega)]
      · intro bk i u hI hb
        obtain ⟨i1, i2, i3, i4⟩ := hI
        rw [i32_id (x := i) (by omega) (by omega), i32_id (x := 60 * a1 + i) (by omega) (by omega)]
        refine ⟨fun hc => ?_, fun hc => ⟨⟨by omega, by omega⟩, fun u1 f1 => ?_⟩⟩
        · have : i = 60 := by omega
          subst this
          refine hQ u (fun k a b c => ?_) ?_ ?_ i4
          · rw [i3 k c, h12, ss_row _ b, h9, ss_row _ a]
          · rw [i3 24 (by decide), h12, ss_row _ (by decide), h9, ss_self]
          · rw [i3 25 (by decide), h12, ss_self, h9, ss_row _ (by decide)]
        · refine hb _ _ ⟨by omega, by omega, fun k hk => by rw [f1, ss_row _ hk]; exact i3 k hk, ?_⟩ (by omega)
          rw [f1, ss_self, i4]
          funext j
          simp only
          by_cases c : j = 60 * a1 + i
          · rw [if_pos c, if_pos (by omega)]
          · rw [if_neg c]
            by_cases c2 : 60 * a1 ≤ j ∧ j < 60 * a1 + i
            · rw [if_pos c2, if_pos (by omega)]
            · rw [if_neg c2, if_neg (by omega)]
    have j60 : J_M_sheet_60 a1 a2 a3 Q τ := by
      unfold J_M_sheet_60
      rw [r1, r2]
      refine ⟨h1, fun t9 h9 => ⟨fun z => ?_, fun z => ?_⟩⟩
      · have := j81 t9 h9
        rw [if_pos z] at this
        exact this
      · have := j81 t9 h9
        rw [if_neg (by omega)] at this
        exact this
    have j43 : J_M_sheet_43 a1 a2 a3 Q τ := by
      unfold J_M_sheet_43
      rw [r2, r3]
      exact ⟨fun _ => j60, fun z => ⟨fun _ => j60, fun w => by have := q3 z; omega⟩⟩
    refine in_ok (i64_of32 r2) cm1 c3 (fun _ => ⟨fun _ => ⟨fun _ => j43, fun z => ⟨fun _ => j43, fun w => by have := q3 z; omega⟩⟩, fun w => absurd w n10⟩) (fun w => absurd ⟨q1, q2⟩ w)
  have oth : ∀ (τ' : St), τ' 24 = (fun j => if j = a1 then a2 else τ 24 j) → τ' 25 = (fun j => if j = a1 then (if 0 ≤ a2 then a3 else 0) else τ 25 j) → τ' 26 = (fun j => if 60 * a1 ≤ j ∧ j < 60 * a1 + 60 then 0 else τ 26 j) → ∀ i : Nat, i < 4 → i ≠ n → τ' 24 i = τ 24 i ∧ τ' 25 i = τ 25 i ∧ ∀ k, 0 ≤ k → k < 60 → τ' 26 (60 * i + k) = τ 26 (60 * i + k) := by
    intro τ' e1 e2 e3 i hi hne
    have hne' : ¬ (i : Int) = a1 := by omega
    rw [e1, e2, e3]
    simp only [hne', if_false]
    exact ⟨trivial, trivial, fun k x y => by rw [if_neg (by omega)]⟩
  refine ⟨fun z => bad1 (by omega), fun z => ⟨fun y => ⟨fun x => ⟨fun v => ⟨fun u => ⟨h1, fun q hq => ?_⟩, fun u => ?_⟩, fun v => ?_⟩, fun x => ⟨h1, fun q hq s14 h14 => ?_⟩⟩, fun y => bad1 (by omega)⟩⟩
  · -- a sheet of a sort
    have hqn : q = 57 + 2 * n := by omega
    subst hqn
    unfold V_Sheet_begin
    intro s1 g1 s2 g2
    refine fillJ_ok (by decide) (mgo _ z y (fun _ => ⟨v, u⟩) (fun τ' m1 m2 m3 m4 => ⟨rfl, ?_⟩))
    have hs : ∀ k, k ≠ 57 + 2 * n → k ≠ 57 + 2 * n + 1 → sf s2 (57 + 2 * n + 1) (fun i => if 0 ≤ i ∧ i < ((60 : Nat) : Int) then 0 else s2 (57 + 2 * n + 1) i) k = σ k := by
      intro k x1 x2
      rw [sf_row _ x2, g2, ss_row _ x1, g1, ss_row _ x1]
    refine hR.sheet (n := n) (by omega) (fun k x1 x2 => hs k x1 (by omega)) m1 (oth τ' m2 m3 m4) ⟨?_, ?_, ?_, fun _ => ⟨?_, ?_, ?_, fun k x1 x2 => ?_⟩⟩
    · rw [sf_row _ (by omega), g2, ss_ne _ _ (by decide), g1, ss_at, m2]
      simp only [hn, if_true]
    · rw [m2]; simp only [hn, if_true]; exact z
    · rw [m2]; simp only [hn, if_true]; exact y
    · rw [sf_row _ (by omega), g2, ss_at, m3]
      simp only [hn, if_true]
      rw [if_pos (by omega)]
    · rw [m3]; simp only [hn, if_true]; rw [if_pos (by omega)]; exact v
    · rw [m3]; simp only [hn, if_true]; rw [if_pos (by omega)]; exact u
    · rw [show 58 + 2 * n = 57 + 2 * n + 1 by omega, sf_at, m4]
      simp only
      rw [if_pos ⟨x1, x2⟩, if_pos (by omega)]
      exact ⟨rfl, k64_0⟩
  · refine both_fail (e := -1000000001) hR (by decide) (by decide) (by decide) (VM := fun τ Q => V_M_sheet τ a1 a2 a3 Q) (fun Q hQ => ?_)
    unfold V_M_sheet
    refine MisSheet_ok r1 (fun _ => ⟨fun w => absurd w n10, fun _ => ?_⟩) (fun w => absurd h1 w)
    rw [r2, r3]
    have j43 : J_M_sheet_43 a1 a2 a3 Q τ := by
      unfold J_M_sheet_43
      rw [r2, r3]
      exact ⟨fun w => by omega, fun _ => ⟨fun w => by omega, fun _ => hQ⟩⟩
    exact in_ok (i64_of32 r2) cm1 c3 (fun _ => ⟨fun _ => ⟨fun w => by omega, fun _ => ⟨fun _ => j43, fun w => by omega⟩⟩, fun w => absurd w n10⟩) (fun w => absurd ⟨z, y⟩ w)
  · refine both_fail (e := -1000000003) hR (by decide) (by decide) (by decide) (VM := fun τ Q => V_M_sheet τ a1 a2 a3 Q) (fun Q hQ => ?_)
    unfold V_M_sheet
    refine MisSheet_ok r1 (fun _ => ⟨fun w => absurd w n10, fun _ => ?_⟩) (fun w => absurd h1 w)
    rw [r2, r3]
    exact in_ok (i64_of32 r2) cm1 c3 (fun _ => ⟨fun _ => ⟨fun w => by omega, fun _ => ⟨fun w => by omega, fun _ => hQ⟩⟩, fun w => absurd w n10⟩) (fun w => absurd ⟨z, y⟩ w)
  · have hqn : q = 57 + 2 * n := by omega
    subst hqn
    refine mgo _ z y (fun w => by omega) (fun τ' m1 m2 m3 m4 => ⟨rfl, ?_⟩)
    refine hR.sheet (n := n) (by omega) (fun k x1 x2 => by rw [h14, ss_row _ x1]) m1 (oth τ' m2 m3 m4) ⟨?_, ?_, ?_, fun w => ?_⟩
    · rw [h14, ss_at, m2]
      simp only [hn, if_true]
      exact x.symm
    · rw [m2]; simp only [hn, if_true]; exact z
    · rw [m2]; simp only [hn, if_true]; exact y
    · rw [m2] at w
      simp only [hn, if_true] at w
      omega
