-- BACK, WIND, COUNT
theorem planOk_set {N N' : Int → Int} (h : planOk N) (e : ∀ i, i ≠ 1 → ¬ (140 ≤ i ∧ i < 156) → N' i = N i) (hw : ∀ t, 0 ≤ t → t < 16 → 0 ≤ N' (140 + t) ∧ N' (140 + t) ≤ 9999) (h1 : 0 ≤ N' 1) (h2 : N' 1 ≤ N 1) : planOk N' ∧ stS N' = stS N := by
  have hS : stS N' = stS N := stS_congr (e 0 (by decide) (by omega)) h.2.1 (fun i x y => e i (by omega) (by omega))
  refine ⟨⟨?_, ?_, ?_, ?_, ?_, hw, h1, ?_, ?_⟩, hS⟩
  · rw [e 0 (by decide) (by omega)]; exact h.1
  · rw [e 0 (by decide) (by omega)]; exact h.2.1
  · refine ⟨fun k x y => ?_, fun r g x1 x2 x3 x4 => ?_⟩
    · rw [e _ (by omega) (by omega)]; exact h.2.2.1.1 k x y
    · rw [e _ (by omega) (by omega), e _ (by omega) (by omega)]; exact h.2.2.1.2 r g x1 x2 x3 x4
  · intro r g x1 x2 x3 x4
    rw [e 0 (by decide) (by omega)] at x3
    have := h.1
    rw [e _ (by omega) (by omega)]
    exact h.2.2.2.1 r g x1 x2 x3 x4
  · intro k x y
    obtain ⟨w1, w2, w3⟩ := h.2.2.2.2.1 k x y
    unfold wordOk
    rw [e _ (by omega) (by omega)]
    refine ⟨w1, w2, fun i z1 z2 => ?_⟩
    rw [e _ (by omega) (by omega)]
    exact w3 i z1 z2
  · rw [hS]
    have := h.2.2.2.2.2.2.2.1
    omega
  · rw [hS]
    intro k hk
    rw [e _ (by omega) (by omega), (wsN_congr (N := N) (N' := N') k (fun i hi => e _ (by omega) (by omega))).1]
    exact h.2.2.2.2.2.2.2.2 k (by omega)
def bkN (N : Int → Int) : Int → Int := fun i => if i = 1 then N 1 - 1 else N i
theorem op_back {σ τ : St} (hR : Rel σ τ) : V_P_back σ (fun r σ' => V_M_back τ (fun r' τ' => i32 r = i32 r' ∧ Rel σ' τ')) := by
  have p1 := hR.2.1
  have p2 := hR.2.2.1
  have hl := (stS_ok p1).2.1
  have q7 := p1.2.2.2.2.2.2.1
  have q8 := p1.2.2.2.2.2.2.2.1
  have e16 : σ 1 6 = τ 1 1 := p2.2.1
  unfold V_P_back
  rw [e16, i32_id (x := τ 1 1) (by omega) (by omega)]
  refine ⟨fun hc s1 h1 => ?_, fun hc => ?_⟩
  · have eb : ∀ i, i ≠ 1 → bkN (τ 1) i = τ 1 i := fun i h => by unfold bkN; rw [if_neg h]
    have eb1 : bkN (τ 1) 1 = τ 1 1 - 1 := by unfold bkN; rw [if_pos rfl]
    obtain ⟨n1, n2⟩ := planOk_set (N' := bkN (τ 1)) p1 (fun i h _ => eb i h) (fun t a b => by rw [eb _ (by omega)]; exact p1.2.2.2.2.2.1 t a b) (by rw [eb1]; omega) (by rw [eb1]; omega)
    have fr1 : ∀ k, k ≠ 1 → s1 k = σ k := fun k h => by rw [h1, ss_row _ h]
    have P1 : PR s1 1 (bkN (τ 1)) := by
      obtain ⟨z1, z2, z3, z4, z5, z6⟩ := p2
      refine ⟨?_, ?_, fun k x y => ?_, fun k x y => ?_, fun k x y => ?_, fun k x y => ?_⟩
      · rw [h1, ss_ne _ _ (by decide), eb 0 (by decide)]; exact z1
      · rw [h1, ss_at, eb1]
      · rw [fr1 _ (by decide), eb _ (by omega)]; exact z3 k x y
      · rw [fr1 _ (by decide), fr1 _ (by decide), eb _ (by omega)]
        refine ⟨(z4 k x y).1, fun i a b => ?_⟩
        rw [eb _ (by omega)]
        exact (z4 k x y).2 i a b
      · rw [fr1 _ (by decide), eb _ (by omega)]; exact z5 k x y
      · rw [fr1 _ (by decide), eb _ (by omega)]; exact z6 k x y
    refine replay_ok n1 P1 (by rw [n2]; exact hR.2.2.2.1.fe (fun k a b => fr1 k (by omega))) (fun u v1 v2 v3 => ?_)
    have u1 : u 1 = s1 1 := v3.e 1 (by decide) (by decide)
    have u6 : u 6 = σ 6 := by rw [v3.e 6 (by decide) (by decide)]; exact fr1 6 (by decide)
    have s16 : s1 1 6 = τ 1 1 - 1 := by rw [h1, ss_at]
    rw [u1, u6, s16, i32_id (x := τ 1 1 - 1) (by omega) (by omega)]
    refine ⟨⟨by omega, by omega⟩, ?_⟩
    unfold V_M_back
    rw [i32_id (x := τ 1 1) (by omega) (by omega)]
    refine ⟨fun _ m1 g1 => ?_, fun w => absurd w hc⟩
    have m11 : m1 1 = bkN (τ 1) := by
      rw [g1, ss_self]
      rfl
    rw [m11, eb1, i32_id (x := 156 + (τ 1 1 - 1)) (by omega) (by omega), eb _ (by omega)]
    refine ⟨⟨by omega, by omega⟩, ?_, ?_⟩
    · have : σ 6 (τ 1 1 - 1) = τ 1 (156 + (τ 1 1 - 1)) := p2.2.2.2.2.2 _ (by omega) (by omega)
      rw [this]
    · refine hR.next m11 n1 n2 (P1.fr (v3.r 1 6 (by decide) (by decide))) v1 v2 (fun i a b => eb i (by omega)) (fun k hk => ?_) ?_ ?_ (fun k a b _ => by rw [g1, ss_row _ b]) (fun j _ => by rw [g1, ss_row _ (by decide)])
      · rw [v3.e k (by omega) (by simp only [List.mem_cons, List.not_mem_nil, or_false]; omega)]
        exact fr1 k (by omega)
      · rw [v3.2 8 (by decide), fr1 0 (by decide)]
      · rw [v3.2 3 (by decide), fr1 0 (by decide)]
  · refine both_fail (e := -1000000002) hR (by decide) (by decide) (by decide) (VM := fun τ Q => V_M_back τ Q) (fun Q hQ => ?_)
    unfold V_M_back
    rw [i32_id (x := τ 1 1) (by omega) (by omega)]
    exact ⟨fun w => absurd hc w, fun _ => hQ⟩
def wnN (N : Int → Int) (t v : Int) : Int → Int := fun i => if i = 140 + t then v else N i
theorem op_wind {σ τ : St} (hR : Rel σ τ) {a1 a2 : Int} (r1 : i32 a1 = a1) (r2 : i32 a2 = a2) : V_P_wind σ a1 a2 (fun r σ' => V_M_wind τ a1 a2 (fun r' τ' => i32 r = i32 r' ∧ Rel σ' τ')) := by
  obtain ⟨pl1, pl2, pl3⟩ := hR.pl
  have p1 := hR.2.1
  have p2 := hR.2.2.1
  have p5 := hR.2.2.2.2.2.1
  have hl := (stS_ok p1).2.1
  have q7 := p1.2.2.2.2.2.2.1
  have q8 := p1.2.2.2.2.2.2.2.1
  have bad : ¬ (0 ≤ a1 ∧ a1 < 2 * τ 1 0 ∧ 0 ≤ a2 ∧ a2 ≤ 9999) → V_P_fail σ 1 (fun r σ' => V_M_wind τ a1 a2 (fun r' τ' => i32 r = i32 r' ∧ Rel σ' τ')) := by
    intro hc
    refine both_fail (e := -1000000001) hR (by decide) (by decide) (by decide) (VM := fun τ Q => V_M_wind τ a1 a2 Q) (fun Q hQ => ?_)
    unfold V_M_wind
    refine MisThread_ok r1 rfl pl2 pl3 (fun z => ⟨fun w => absurd w n10, fun _ => ?_⟩) (fun _ => ⟨fun _ => hQ, fun w => absurd z00 w⟩)
    rw [r2]
    exact in_ok (i64_of32 r2) k64_0 (i64_id (by decide) (by decide)) (fun y => absurd (by omega) hc) (fun _ => ⟨fun w => absurd z00 w, fun _ => hQ⟩)
  have mgo : ∀ Q : Int → St → Prop, 0 ≤ a1 → a1 < 2 * τ 1 0 → 0 ≤ a2 → a2 ≤ 9999 → (∀ v, MW v (wkA (τ 1)) → frm mwK mwJ τ v → ((i32 (v 12 a1) ≤ a2 → (0 ≤ i32 (140 + a1) ∧ i32 (140 + a1) < 204) ∧ ∀ x3_8 : Int, x3_8 = v 1 (i32 (140 + a1)) → (0 ≤ i32 (140 + a1) ∧ i32 (140 + a1) < 204) ∧ ∀ σ9 : St, σ9 = ss v 1 (i32 (140 + a1)) a2 → Q x3_8 σ9) ∧ (a2 < i32 (v 12 a1) → V_M_errs v (-1000000003) (fun (r11 : Int) (σ10 : St) => Q r11 σ10)))) → V_M_wind τ a1 a2 Q := by
    intro Q b1 b2 b3 b4 hQ
    unfold V_M_wind
    refine MisThread_ok r1 rfl pl2 pl3 (fun z => ⟨fun w => absurd w n10, fun _ => ?_⟩) (fun w => absurd ⟨b1, b2⟩ w)
    rw [r2]
    refine in_ok (i64_of32 r2) k64_0 (i64_id (by decide) (by decide)) (fun _ => ⟨fun _ => ?_, fun w => absurd w n10⟩) (fun w => absurd ⟨b3, b4⟩ w)
    rw [r1]
    exact Mwork hR (fun v m f => ⟨⟨by omega, by omega⟩, hQ v m f⟩)
  unfold V_P_wind
  rw [r1, r2]
  refine isThread_ok r1 pl1 pl2 pl3 (fun h1 => ⟨fun w => absurd w n10, fun _ => ⟨fun z => bad (by omega), fun z => ⟨fun y => ⟨⟨by omega, by omega⟩, ?_⟩, fun y => bad (by omega)⟩⟩⟩) (fun h1 => ⟨fun _ => bad (by omega), fun w => absurd z00 w⟩)
  have hu := wkA_use p1 a1
  have e32 : σ 32 a1 = (wkA (τ 1)).2.1 a1 := (p5.2.2.1.1 a1 (by omega) (by omega)).1
  rw [e32, i32_id (x := (wkA (τ 1)).2.1 a1) (by omega) (by omega)]
  refine ⟨fun hc => ⟨⟨by omega, by omega⟩, fun x hx => ⟨⟨by omega, by omega⟩, fun s h8 => ?_⟩⟩, fun hc => ?_⟩
  · refine mgo _ h1.1 h1.2 z y (fun v m f => ?_)
    rw [m.2.1 a1 (by omega) (by omega), i32_id (x := (wkA (τ 1)).2.1 a1) (by omega) (by omega), i32_id (x := 140 + a1) (by omega) (by omega)]
    refine ⟨fun _ => ⟨⟨by omega, by omega⟩, fun x' hx' => ⟨⟨by omega, by omega⟩, fun m1 g1 => ?_⟩⟩, fun w => by omega⟩
    have v1 : v 1 = τ 1 := f.1 1 (by decide) (by decide)
    have eb : ∀ i, i ≠ 140 + a1 → wnN (τ 1) a1 a2 i = τ 1 i := fun i h => by unfold wnN; rw [if_neg h]
    have eb1 : wnN (τ 1) a1 a2 (140 + a1) = a2 := by unfold wnN; rw [if_pos rfl]
    obtain ⟨n1, n2⟩ := planOk_set (N' := wnN (τ 1) a1 a2) p1 (fun i _ h => eb i (by omega)) (fun t a b => by
      by_cases c : t = a1
      · rw [c, eb1]; exact ⟨z, y⟩
      · rw [eb _ (by omega)]; exact p1.2.2.2.2.2.1 t a b) (by rw [eb _ (by omega)]; exact q7) (by rw [eb _ (by omega)]; exact Int.le_refl _)
    have m11 : m1 1 = wnN (τ 1) a1 a2 := by rw [g1, ss_self, v1]; rfl
    have frs : ∀ k, k ≠ 5 → s k = σ k := fun k h => by rw [h8, ss_row _ h]
    refine ⟨?_, ?_⟩
    · rw [hx, hx', v1]
      have : σ 5 a1 = τ 1 (140 + a1) := p2.2.2.2.2.1 a1 (by omega) (by omega)
      rw [this]
    · refine hR.next m11 n1 n2 ?_ ?_ ?_ (fun i a b => eb i (by omega)) (fun k hk => frs k (by omega)) (by rw [frs 0 (by decide)]) (by rw [frs 0 (by decide)]) (fun k a b c => ?_) (fun j c => ?_)
      · obtain ⟨z1, z2, z3, z4, z5, z6⟩ := p2
        refine ⟨?_, ?_, fun k x y => ?_, fun k x y => ?_, fun k x y => ?_, fun k x y => ?_⟩
        · rw [frs 1 (by decide), eb 0 (by omega)]; exact z1
        · rw [frs 1 (by decide), eb 1 (by omega)]; exact z2
        · rw [frs _ (by decide), eb _ (by omega)]; exact z3 k x y
        · rw [frs _ (by decide), frs _ (by decide), eb _ (by omega)]
          refine ⟨(z4 k x y).1, fun i a b => ?_⟩
          rw [eb _ (by omega)]
          exact (z4 k x y).2 i a b
        · rw [h8]
          by_cases c : k = a1
          · rw [c, eb1]; exact ss_at _ _ _ _
          · rw [eb _ (by omega)]
            show ss σ 5 a1 a2 5 k = _
            rw [ss_ne _ _ c]
            exact z5 k x y
        · rw [frs _ (by decide), eb _ (by omega)]; exact z6 k x y
      · have : wkA (wnN (τ 1) a1 a2) = wkA (τ 1) := by
          unfold wkA
          rw [n2, eb 1 (by omega)]
          exact awQ_congrN (plan_st p1) (fun i a b => eb i (by omega)) _ (wk_all p1) (fun i hi => eb _ (by omega))
        rw [this]
        exact p5.fe (fun k a b => frs k (by omega))
      · rw [frs 0 (by decide), eb 1 (by omega), (wsN_congr (N := τ 1) (N' := wnN (τ 1) a1 a2) (τ 1 1).toNat (fun i hi => eb _ (by omega))).2]
        exact hR.2.2.2.2.2.2.1
      · rw [g1, ss_row _ b]
        exact (mw_sc f).1 k a c
      · rw [g1, ss_row _ (by decide)]
        exact (mw_sc f).2 j c
  · refine fail_ok (by decide) (by decide) (mgo _ h1.1 h1.2 z y (fun v m f => ?_))
    rw [m.2.1 a1 (by omega) (by omega), i32_id (x := (wkA (τ 1)).2.1 a1) (by omega) (by omega)]
    exact ⟨fun w => by omega, fun _ => errs_ok (k := 3) (by decide) (by decide) (by decide) ⟨by decide, (hR.fm (mw_sc f)).err (by decide) (by decide)⟩⟩
-- sums
def smI (f : Int → Int) : Nat → Int
  | 0 => 0
  | n + 1 => smI f n + f n
theorem smI_congr {f g : Int → Int} (n : Nat) (h : ∀ i : Nat, i < n → f i = g i) : smI f n = smI g n := by
  induction n with
  | zero => rfl
  | succ n ih => unfold smI; rw [ih (fun i hi => h i (by omega)), h n (by omega)]
theorem smI_sub {f g : Int → Int} (n : Nat) : smI f n - smI g n = smI (fun i => f i - g i) n := by
  induction n with
  | zero => rfl
  | succ n ih => unfold smI; rw [← ih]; omega
theorem sumOf_ok {a : Nat} {σ : St} {n : Nat} {x : Int} {Q : Int → St → Prop} (hx : x = n) (hn : n ≤ 16) (h : Q (smI (σ a) n) σ) : V_P_sumOf a σ x Q := by
  subst hx
  unfold V_P_sumOf
  refine wl2 (fun i y u => u = σ ∧ ∃ k : Nat, k ≤ n ∧ i = k ∧ y = smI (σ a) k) (fun i _ _ => (n - i).toNat) ⟨rfl, 0, by omega, rfl, rfl⟩ ?_
  intro bk i y u hI hb
  obtain ⟨rfl, k, hk, rfl, rfl⟩ := hI
  rw [i32_id (x := (k : Int)) (by omega) (by omega), i32_id (x := (n : Int)) (by omega) (by omega)]
  refine ⟨fun hc => ?_, fun hc => ⟨fun hd => by omega, fun _ => ⟨⟨by omega, by omega⟩, fun z hz => hb _ _ _ ⟨rfl, k + 1, by omega, by omega, hz⟩ (by omega)⟩⟩⟩
  have : k = n := by omega
  subst this
  exact h
theorem Mall_ok {σ τ : St} (hR : Rel σ τ) {w : Int} {n : Nat} {Q : Int → St → Prop} (hw : w = 0 ∨ w = 1) (hn : 2 * τ 1 0 = n) (h : ∀ τ', frm mwK mwJ τ τ' → Q (smI (fun t => τ 1 (140 + t) - (if w = 0 then 0 else (wkA (τ 1)).2.1 t)) n) τ') : V_M_all τ w Q := by
  obtain ⟨pl1, pl2, pl3⟩ := hR.pl
  unfold V_M_all
  refine Mwork hR (fun v m f => ?_)
  have v1 : v 1 = τ 1 := f.1 1 (by decide) (by decide)
  refine wl2 (fun i y u => u = v ∧ ∃ k : Nat, k ≤ n ∧ i = k ∧ y = smI (fun t => τ 1 (140 + t) - (if w = 0 then 0 else (wkA (τ 1)).2.1 t)) k) (fun i _ _ => (n - i).toNat) ⟨rfl, 0, by omega, rfl, rfl⟩ ?_
  intro bk i y u hI hb
  obtain ⟨rfl, k, hk, rfl, rfl⟩ := hI
  dsimp only [V_M_threads]
  rw [v1, hn, i32_id (x := (k : Int)) (by omega) (by omega), i32_id (x := (n : Int)) (by omega) (by omega), i32_id (x := w) (by omega) (by omega)]
  refine ⟨fun hc => ?_, fun hc => ?_⟩
  · have : k = n := by omega
    subst this
    exact h u f
  · rw [i32_id (x := 140 + (k : Int)) (by omega) (by omega)]
    refine ⟨⟨by omega, by omega⟩, fun hd z hz => hb _ _ _ ⟨rfl, k + 1, by omega, by omega, ?_⟩ (by omega), fun hd => ⟨⟨by omega, by omega⟩, fun z hz => hb _ _ _ ⟨rfl, k + 1, by omega, by omega, ?_⟩ (by omega)⟩⟩
    · rw [hz]
      show _ = smI _ k + (τ 1 (140 + k) - (if w = 0 then 0 else (wkA (τ 1)).2.1 k))
      rw [if_pos hd]
    · rw [hz, m.2.1 k (by omega) (by omega)]
      show _ = smI _ k + (τ 1 (140 + k) - (if w = 0 then 0 else (wkA (τ 1)).2.1 k))
      rw [if_neg hd]
theorem op_count {σ τ : St} (hR : Rel σ τ) {a1 : Int} (r1 : i32 a1 = a1) : V_P_count σ a1 (fun r σ' => V_M_count τ a1 (fun r' τ' => i32 r = i32 r' ∧ Rel σ' τ')) := by
  obtain ⟨pl1, pl2, pl3⟩ := hR.pl
  have p1 := hR.2.1
  have p2 := hR.2.2.1
  have p5 := hR.2.2.2.2.2.1
  obtain ⟨n, hn⟩ : ∃ n : Nat, 2 * τ 1 0 = n := ⟨(2 * τ 1 0).toNat, by omega⟩
  unfold V_P_count
  intro x hx
  rw [pl1, hn] at hx
  rw [r1]
  unfold V_M_count
  rw [r1]
  refine ⟨fun hc => ⟨fun _ => ⟨by rw [pl1], hR⟩, fun w => by omega, fun w => by omega, fun w => by omega, fun w => by omega, fun w => by omega, fun w => by omega⟩, fun hc => ⟨fun w => by omega, fun _ => ⟨by rw [hR.1.1.1], hR⟩, fun w => by omega, fun w => by omega, fun w => by omega, fun w => by omega, fun w => by omega⟩, fun hc => ?_, fun hc => ?_, fun hc => ⟨fun w => by omega, fun w => by omega, fun w => by omega, fun w => by omega, fun _ => ?_, fun w => by omega, fun w => by omega⟩, fun hc => ?_, fun hc => ?_⟩
  · refine sumOf_ok hx (by omega) (sumOf_ok hx (by omega) ⟨fun w => by omega, fun w => by omega, fun _ => Mall_ok hR (Or.inr rfl) hn (fun τ' f => ⟨?_, hR.fm (mw_sc f)⟩), fun w => by omega, fun w => by omega, fun w => by omega, fun w => by omega⟩)
    rw [smI_sub]
    congr 1
    refine smI_congr n (fun i hi => ?_)
    have e1 : σ 5 i = τ 1 (140 + i) := p2.2.2.2.2.1 i (by omega) (by omega)
    have e2 : σ 32 i = (wkA (τ 1)).2.1 i := (p5.2.2.1.1 i (by omega) (by omega)).1
    show σ 5 i - σ 32 i = τ 1 (140 + i) - (if (1 : Int) = 0 then 0 else (wkA (τ 1)).2.1 i)
    rw [e1, e2, if_neg (by decide)]
  · refine sumOf_ok hx (by omega) ⟨fun w => by omega, fun w => by omega, fun w => by omega, fun _ => Mall_ok hR (Or.inl rfl) hn (fun τ' f => ⟨?_, hR.fm (mw_sc f)⟩), fun w => by omega, fun w => by omega, fun w => by omega⟩
    congr 1
    refine smI_congr n (fun i hi => ?_)
    have e1 : σ 5 i = τ 1 (140 + i) := p2.2.2.2.2.1 i (by omega) (by omega)
    show σ 5 i = τ 1 (140 + i) - (if (0 : Int) = 0 then 0 else (wkA (τ 1)).2.1 i)
    rw [e1, if_pos rfl]
    omega
  · unfold V_M_made
    refine Mwork hR (fun v m f => ⟨?_, hR.fm (mw_sc f)⟩)
    have e1 : σ 29 9 = (wkA (τ 1)).2.2.length := p5.2.2.2.1
    rw [e1, m.2.2.1]
  · unfold V_Weave_countAtHome
    obtain ⟨wf, -⟩ := wkA_g p1
    have key : ∀ t, 0 ≤ t → t < 16 → (i32 (σ 31 t) = t ↔ (wkA (τ 1)).1 t = t) := by
      intro t a b
      obtain ⟨z1, z2, z3⟩ := p5.2.1 t a b
      have z1' : 0 ≤ σ 31 t := z1
      have z2' : σ 31 t < 16 := z2
      have z3' : (wkA (τ 1)).1 (σ 31 t) = t := z3
      rw [i32_id (x := σ 31 t) (by omega) (by omega)]
      refine ⟨fun h => ?_, fun h => ?_⟩
      · rw [h] at z3'; exact z3'
      · exact wf.1.2 _ _ z1' z2' a b (by rw [z3', h])
    refine wl2 (fun i y u => u = σ ∧ ∃ k : Nat, k ≤ n ∧ i = k ∧ y = smI (fun t => if (wkA (τ 1)).1 t = t then 1 else 0) k) (fun i _ _ => (n - i).toNat) ⟨rfl, 0, by omega, rfl, rfl⟩ ?_
    intro bk i y u hI hb
    obtain ⟨rfl, k, hk, rfl, rfl⟩ := hI
    rw [hx, i32_id (x := (k : Int)) (by omega) (by omega), i32_id (x := (n : Int)) (by omega) (by omega)]
    refine ⟨fun hd => ⟨fun w => by omega, fun w => by omega, fun w => by omega, fun w => by omega, fun w => by omega, fun _ => ?_, fun w => by omega⟩, fun hd => ⟨fun w => by omega, fun _ => ⟨⟨by omega, by omega⟩, fun h => hb _ _ _ ⟨rfl, k + 1, by omega, by omega, ?_⟩ (by omega), fun h => hb _ _ _ ⟨rfl, k + 1, by omega, by omega, ?_⟩ (by omega)⟩⟩⟩
    · have : k = n := by omega
      subst this
      unfold V_M_atHome
      refine Mwork hR (fun v m f => ?_)
      have v1 : v 1 = τ 1 := f.1 1 (by decide) (by decide)
      refine wl2 (fun i y u => u = v ∧ ∃ j : Nat, j ≤ k ∧ i = j ∧ y = smI (fun t => if (wkA (τ 1)).1 t = t then 1 else 0) j) (fun i _ _ => (k - i).toNat) ⟨rfl, 0, by omega, rfl, rfl⟩ ?_
      intro bk i y u hI hb
      obtain ⟨rfl, j, hj, rfl, rfl⟩ := hI
      have hw := wf.1.1 j (by omega)
      dsimp only [V_M_threads]
      rw [v1, hn, i32_id (x := (j : Int)) (by omega) (by omega), i32_id (x := (k : Int)) (by omega) (by omega)]
      refine ⟨fun he => ?_, fun he => ⟨⟨by omega, by omega⟩, ?_⟩⟩
      · have : j = k := by omega
        subst this
        exact ⟨rfl, hR.fm (mw_sc f)⟩
      · rw [m.1 j (by omega) (by omega), i32_id (x := (wkA (τ 1)).1 j) (by have := hw (by omega); omega) (by have := hw (by omega); omega)]
        refine ⟨fun h z hz => hb _ _ _ ⟨rfl, j + 1, by omega, by omega, ?_⟩ (by omega), fun h z hz => hb _ _ _ ⟨rfl, j + 1, by omega, by omega, ?_⟩ (by omega)⟩
        · rw [hz]
          show _ = smI _ j + (if (wkA (τ 1)).1 j = j then 1 else 0)
          rw [if_neg h]
        · rw [hz]
          show _ = smI _ j + (if (wkA (τ 1)).1 j = j then 1 else 0)
          rw [if_pos h]
    · show _ = smI _ k + (if (wkA (τ 1)).1 k = k then 1 else 0)
      rw [if_neg (fun z => h ((key k (by omega) (by omega)).mpr z)), Int.add_zero]
    · show _ = smI _ k + (if (wkA (τ 1)).1 k = k then 1 else 0)
      rw [if_pos ((key k (by omega) (by omega)).mp h)]
  · exact fail_ok (by decide) (by decide) ⟨fun w => by omega, fun w => by omega, fun w => by omega, fun w => by omega, fun w => by omega, fun w => by omega, fun _ => errs_ok (k := 1) (by decide) (by decide) (by decide) ⟨by decide, hR.err (by decide) (by decide)⟩⟩
