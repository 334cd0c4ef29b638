-- WORKS: many, one after another
def wkC (N : Int → Int) (it : Nat → Int) : Nat → Int → Int
  | 0 => N
  | n + 1 => wkN (wkC N it n) (it n)
def frmN (τ u : St) (N : Int → Int) : Prop := u 1 = N ∧ (∀ k, k ≠ 0 → k ≠ 1 → k ∉ scK → u k = τ k) ∧ ∀ j, j ∉ scJ → u 0 j = τ 0 j
theorem frmN_sf (τ : St) (N : Int → Int) : frmN τ (sf τ 1 N) N := ⟨sf_at _ _ _, fun k _ h _ => sf_row _ h _, fun j _ => by rw [sf_row _ (by decide)]⟩
theorem frmN.sc {τ u v : St} {N : Int → Int} (h : frmN τ u N) (f : frm scK scJ u v) : frmN τ v N :=
  ⟨by rw [f.1 1 (by decide) (by decide)]; exact h.1, fun k a b c => by rw [f.1 k a c]; exact h.2.1 k a b c, fun j c => by rw [f.2 j c]; exact h.2.2 j c⟩
theorem frmN.set {τ u v : St} {N N' : Int → Int} (h : frmN τ u N) (e1 : v 1 = N') (f : ∀ k, k ≠ 1 → v k = u k) : frmN τ v N' :=
  ⟨e1, fun k a b c => by rw [f k b]; exact h.2.1 k a b c, fun j c => by rw [f 0 (by decide)]; exact h.2.2 j c⟩
def goodW (N : Int → Int) (a : Int) : Prop := 0 ≤ a ∧ a < (stS N).length ∧ isfr N a ∧ enough N a
def chainW (τ : St) (it : Nat → Int) (n : Nat) : Prop := (∀ j, j < n → goodW (wkC (τ 1) it j) (it j)) ∧ ∀ j, j ≤ n → ∃ s : St, ∀ u, frmN τ u (wkC (τ 1) it j) → Rel s u
/-- the reference walks the same chain -/
theorem Mworks_chain {τ : St} {a1 : Int} {it : Nat → Int} {n : Nat} {Q : Int → St → Prop} (h1 : 0 ≤ a1) (h2 : a1 < 4) (hs : 0 ≤ τ 25 a1) (hs2 : τ 25 a1 ≤ 60) (hit : ∀ j : Nat, (j : Int) < τ 25 a1 → it j = τ 26 (60 * a1 + j)) (hn : (n : Int) ≤ τ 25 a1) (hc : chainW τ it n) (h24 : 0 ≤ τ 24 a1) (h243 : τ 24 a1 ≤ 3)
    (hend : (n : Int) = τ 25 a1 → ∀ u, frmN τ u (wkC (τ 1) it n) → Q n u) (hmid : (n : Int) < τ 25 a1 → ∀ u, frmN τ u (wkC (τ 1) it n) → ∀ Q' : Int → St → Prop, (∀ k, 1 ≤ k → k ≤ 6 → ∀ u', frm scK scJ u u' → Q n u' → Q' (-1000000000 - k) u') → V_M_wrong u (it n) Q') (hq : (n : Int) < τ 25 a1 → ∀ u, frmN τ u (wkC (τ 1) it n) → Q n u) : V_M_works_ τ a1 Q := by
  have r1 : i32 a1 = a1 := i32_id (by omega) (by omega)
  unfold V_M_works_
  refine MisSheet_ok r1 (fun _ => ⟨fun _ => ?_, fun w => absurd w n10⟩) (fun w => absurd ⟨h1, h2⟩ w)
  rw [r1, i32_id (x := τ 24 a1) (by omega) (by omega)]
  refine ⟨⟨h1, h2⟩, fun _ => ?_, fun w => by omega⟩
  refine wl1 (fun i u => ∃ j : Nat, j ≤ n ∧ i = j ∧ frmN τ u (wkC (τ 1) it j)) (fun i _ => (n - i).toNat) ⟨0, by omega, rfl, ⟨rfl, fun _ _ _ _ => rfl, fun _ _ => rfl⟩⟩ ?_
  intro bk i u hI hb
  obtain ⟨j, hj, rfl, hf⟩ := hI
  rw [show u 25 = τ 25 from hf.2.1 25 (by decide) (by decide) (by decide), show u 26 = τ 26 from hf.2.1 26 (by decide) (by decide) (by decide), i32_id (x := τ 25 a1) (by omega) (by omega), i32_id (x := (j : Int)) (by omega) (by omega), i32_id (x := 60 * a1 + (j : Int)) (by omega) (by omega)]
  refine ⟨⟨h1, h2⟩, fun hd => ?_, fun hd => ⟨⟨by omega, by omega⟩, ?_⟩⟩
  · have : j = n := by omega
    subst this
    exact hend (by omega) u hf
  · rw [← hit j hd]
    by_cases c : j = n
    · subst c
      refine hmid hd u hf _ (fun k k1 k2 u' f hQ => ⟨fun _ => hQ, fun w => ?_⟩)
      rw [i32_id (x := -1000000000 - k) (by omega) (by omega)] at w
      omega
    · obtain ⟨s, hs⟩ := hc.2 j hj
      have hR := hs u hf
      obtain ⟨g1, g2, g3, g4⟩ := hc.1 j (by omega)
      rw [← hf.1] at g2 g3 g4
      have p1 := hR.2.1
      have hl := (stS_ok p1).2.1
      have q7 := p1.2.2.2.2.2.2.1
      have hst := plan_st p1
      have hsr := hst.2.2.1 (it j) g1 g2
      refine wrong_ok hR (i64_id (by omega) (by omega)) (fun z => absurd ⟨g1, g2⟩ z) (fun _ _ z => absurd g3 z) (fun _ _ _ z => absurd g4 z) (fun _ _ _ _ v m f => ⟨fun w => absurd z00 w, fun _ => ⟨⟨by omega, by omega⟩, ?_⟩⟩)
      have v26 : v 26 = τ 26 := by rw [f.1 26 (by decide) (by decide)]; exact hf.2.1 26 (by decide) (by decide) (by decide)
      have t1 : v 1 = u 1 := f.1 1 (by decide) (by decide)
      obtain ⟨n1, n2, n3, n4, n5⟩ := wkN_ok p1 g1 g2 g3
      have hlen : (awS (u 1) (wkA (u 1)) (kS (stS (u 1)) (it j)) (gS (stS (u 1)) (it j)) (it j)).2.2.length ≤ 800 := by
        have := awS_len (N := u 1) (w := wkA (u 1)) (k := kS (stS (u 1)) (it j)) (g := gS (stS (u 1)) (it j)) (b := it j) (hst.2.2.2 _ hsr.1 hsr.2.1).2.1
        have := (wkA_g p1).2
        omega
      rw [v26, ← hit j hd]
      refine doWork_ok (by rw [t1]; exact q7) (by rw [t1]; omega) (i32_id (by omega) (by omega)) m hlen (by_rng p1 g1 g2) (fun w m1 m2 => ?_)
      refine hb _ _ ⟨j + 1, by omega, by omega, ?_⟩ (by omega)
      refine (hf.sc (mw_sc f)).set ?_ m2
      rw [m1, t1, hf.1]
      rfl
theorem op_works {σ τ : St} (hR : Rel σ τ) {a1 : Int} (r1 : i32 a1 = a1) : V_P_works σ a1 (fun r σ' => V_M_works_ τ a1 (fun r' τ' => i32 r = i32 r' ∧ Rel σ' τ')) := by
  unfold V_P_works
  refine isSheet_ok r1 (fun h1 => ⟨fun _ => ?_, fun w => absurd w n10⟩) (fun h1 => ⟨fun w => absurd z00 w, fun _ => ?_⟩)
  · rw [r1]
    refine ⟨h1, fun q hq => ?_⟩
    obtain ⟨i, hi⟩ : ∃ i : Nat, a1 = i := ⟨a1.toNat, by omega⟩
    have hq' : q = 57 + 2 * i := by omega
    subst hq'
    obtain ⟨s1, s2, s3, s4⟩ := hR.1.2.1 i (by omega)
    rw [← hi] at s1 s2 s3 s4
    rw [s1, i32_id (x := τ 24 a1) (by omega) (by omega)]
    refine ⟨fun hne => ?_, fun he => ?_⟩
    · obtain ⟨z1, z2, z3, z4⟩ := s4 (by omega)
      have hit : ∀ j : Nat, (j : Int) < τ 25 a1 → (fun j : Nat => τ 26 (60 * a1 + j)) j = τ 26 (60 * a1 + j) := fun j _ => rfl
      refine wl1 (fun x u => ∃ n : Nat, (n : Int) ≤ τ 25 a1 ∧ x = n ∧ chainW τ (fun j : Nat => τ 26 (60 * a1 + j)) n ∧ (∀ v, frmN τ v (wkC (τ 1) (fun j : Nat => τ 26 (60 * a1 + j)) n) → Rel u v) ∧ ∀ k, 53 ≤ k → k ≤ 64 → u k = σ k) (fun x _ => (τ 25 a1 - x).toNat) ⟨0, by omega, rfl, ⟨fun j h => by omega, fun j h => ?_⟩, ?_, fun _ _ _ => rfl⟩ ?_
      · have : j = 0 := by omega
        subst this
        refine ⟨σ, fun u hu => ?_⟩
        exact hR.fm ⟨fun k a b => by
          by_cases c : k = 1
          · rw [c]; exact hu.1
          · exact hu.2.1 k a c b, hu.2.2⟩
      · intro v hv
        exact hR.fm ⟨fun k a b => by
          by_cases c : k = 1
          · rw [c]; exact hv.1
          · exact hv.2.1 k a c b, hv.2.2⟩
      · intro bk x u hI hb
        obtain ⟨n, hn, rfl, i3, i4, i5⟩ := hI
        rw [i5 (57 + 2 * i) (by omega) (by omega), i5 (57 + 2 * i + 1) (by omega) (by omega), z1, i32_id (x := τ 25 a1) (by omega) (by omega), i32_id (x := (n : Int)) (by omega) (by omega)]
        refine ⟨fun hd => ?_, fun hd => ⟨⟨by omega, by omega⟩, ?_⟩⟩
        · have hnn : (n : Int) = τ 25 a1 := by omega
          refine Mworks_chain h1.1 h1.2 z2 z3 hit hn i3 (by omega) s3 (fun _ v hv => ⟨by rw [hnn], i4 v hv⟩) (fun w => by omega) (fun w => by omega)
        · have hz := z4 n (by omega) (by omega)
          rw [show 57 + 2 * i + 1 = 58 + 2 * i by omega, hz.1]
          have hRn := i4 _ (frmN_sf τ (wkC (τ 1) (fun j : Nat => τ 26 (60 * a1 + j)) n))
          have e1 : sf τ 1 (wkC (τ 1) (fun j : Nat => τ 26 (60 * a1 + j)) n) 1 = wkC (τ 1) (fun j : Nat => τ 26 (60 * a1 + j)) n := sf_at _ _ _
          -- an end: the reference stops here too
          have stop : ∀ (k : Int) (s : St), 1 ≤ k → k ≤ 6 → (∀ v, frmN τ v (wkC (τ 1) (fun j : Nat => τ 26 (60 * a1 + j)) n) → Rel s v) → (∀ v, frmN τ v (wkC (τ 1) (fun j : Nat => τ 26 (60 * a1 + j)) n) → ∀ Q' : Int → St → Prop, (∀ v', frm scK scJ v v' → Q' (-1000000000 - k) v') → V_M_wrong v (τ 26 (60 * a1 + n)) Q') → V_M_works_ τ a1 (fun r' τ' => i32 (n : Int) = i32 r' ∧ Rel s τ') := by
            intro k s k1 k2 hs hw
            refine Mworks_chain h1.1 h1.2 z2 z3 hit hn i3 (by omega) s3 (fun w => by omega) (fun _ v hv Q' hQ' => hw v hv Q' (fun v' f => hQ' k k1 k2 v' f ⟨rfl, hs v' (hv.sc f)⟩)) (fun _ v hv => ⟨rfl, hs v hv⟩)
          have nz : ∀ k : Int, 1 ≤ k → k ≤ 6 → ¬ i32 k = 0 := fun k a b => by rw [i32_id (by omega) (by omega)]; omega
          refine try_ok hRn hz.2 (fun hc => ⟨fun w => absurd w (nz 1 (by decide) (by decide)), fun _ => ?_⟩) (fun c1 c2 hf => ⟨fun w => absurd w (nz 3 (by decide) (by decide)), fun _ => ?_⟩) (fun c1 c2 hf hne2 s hR' => ⟨fun w => absurd w (nz 6 (by decide) (by decide)), fun _ => ?_⟩) (fun c1 c2 hf hne2 s hfr hR' => ⟨fun _ => ?_, fun w => absurd z00 w⟩)
          · rw [e1] at hc
            refine stop 1 u (by decide) (by decide) i4 (fun v hv Q' hQ' => ?_)
            refine wrong_ok (i4 v hv) hz.2 (fun _ => hQ' v frm.rf) (fun x y => ?_) (fun x y => ?_) (fun x y => ?_) <;> rw [hv.1] at y <;> exact absurd ⟨x, y⟩ hc
          · rw [e1] at c2 hf
            refine stop 3 u (by decide) (by decide) i4 (fun v hv Q' hQ' => ?_)
            refine wrong_ok (i4 v hv) hz.2 (fun z => absurd ⟨c1, by rw [hv.1]; exact c2⟩ z) (fun _ _ _ => hQ' v frm.rf) (fun _ _ z => ?_) (fun _ _ z => ?_) <;> rw [hv.1] at z <;> exact absurd z hf
          · rw [e1] at c2 hf hne2
            refine stop 6 s (by decide) (by decide) (fun v hv => ?_) (fun v hv Q' hQ' => ?_)
            · exact hR'.fm ⟨fun k a b => by
                by_cases c : k = 1
                · rw [c, hv.1, e1]
                · rw [hv.2.1 k a c b, sf_row _ c], fun j hj => by rw [hv.2.2 j hj, sf_row _ (by decide)]⟩
            · refine wrong_ok (i4 v hv) hz.2 (fun z => absurd ⟨c1, by rw [hv.1]; exact c2⟩ z) (fun _ _ z => absurd (by rw [hv.1]; exact hf) z) (fun _ _ _ _ v' f => hQ' v' (mw_sc f)) (fun _ _ _ z => ?_)
              rw [hv.1] at z
              exact absurd z hne2
          · rw [e1] at c2 hf hne2 hR'
            have hnx : ∀ v, frmN τ v (wkC (τ 1) (fun j : Nat => τ 26 (60 * a1 + j)) (n + 1)) → Rel s v := fun v hv => hR' v hv.1 (fun k a b c => by rw [hv.2.1 k a b c, sf_row _ b]) (fun j hj => by rw [hv.2.2 j hj, sf_row _ (by decide)])
            refine hb _ _ ⟨n + 1, by omega, by omega, ⟨fun j hj => ?_, fun j hj => ?_⟩, hnx, fun k a b => by rw [hfr.2.2.2 k a b]; exact i5 k a b⟩ (by omega)
            · by_cases c : j = n
              · subst c
                exact ⟨c1, c2, hf, hne2⟩
              · exact i3.1 j (by omega)
            · by_cases c : j = n + 1
              · subst c
                exact ⟨s, hnx⟩
              · exact i3.2 j (by omega)
    · refine both_fail (e := -1000000007) hR (by decide) (by decide) (by decide) (VM := fun τ Q => V_M_works_ τ a1 Q) (fun Q hQ => ?_)
      unfold V_M_works_
      refine MisSheet_ok r1 (fun _ => ⟨fun _ => ?_, fun w => absurd w n10⟩) (fun w => absurd h1 w)
      rw [r1, i32_id (x := τ 24 a1) (by omega) (by omega)]
      exact ⟨h1, fun w => by omega, fun _ => hQ⟩
  · refine both_fail (e := -1000000001) hR (by decide) (by decide) (by decide) (VM := fun τ Q => V_M_works_ τ a1 Q) (fun Q hQ => ?_)
    unfold V_M_works_
    exact MisSheet_ok r1 (fun w => absurd w h1) (fun _ => ⟨fun w => absurd z00 w, fun _ => hQ⟩)
