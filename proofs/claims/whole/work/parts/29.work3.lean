def xcN (f : Int → Int) : Nat → Int
  | 0 => 0
  | n + 1 => xcN f n + (if f n = 99 ∨ f n = 67 then 1 else 2)
def cBy (rs : List CR) (a : Int) : Int := (rs.countP (fun r => r.2.2.2.2 = a) : Nat)
theorem awN_recs (w : AW) (f : Int → Int) (g b : Int) (n : Nat) : ∃ L, (awN w f g b n).2.2 = w.2.2 ++ L ∧ (∀ r ∈ L, r.2.2.2.2 = b) ∧ (L.length : Int) = xcN f n := by
  induction n with
  | zero => exact ⟨[], (List.append_nil _).symm, fun r hr => (by cases hr), rfl⟩
  | succ n ih =>
    obtain ⟨L, l1, l2, l3⟩ := ih
    have one : ∀ (v : AW) (p s : Int), (awX v p s b).2.2 = v.2.2 ++ [(p, s, xOv v p s, xUn v p s, b)] := fun v p s => rfl
    have fin : ∀ L2 : List CR, (awN w f g b (n + 1)).2.2 = (awN w f g b n).2.2 ++ L2 → (∀ r ∈ L2, r.2.2.2.2 = b) → (L2.length : Int) = (if f n = 99 ∨ f n = 67 then 1 else 2) → ∃ L, (awN w f g b (n + 1)).2.2 = w.2.2 ++ L ∧ (∀ r ∈ L, r.2.2.2.2 = b) ∧ (L.length : Int) = xcN f (n + 1) := by
      intro L2 e1 e2 e3
      refine ⟨L ++ L2, by rw [e1, l1, List.append_assoc], fun r hr => ?_, ?_⟩
      · rcases List.mem_append.mp hr with q | q
        · exact l2 r q
        · exact e2 r q
      · rw [List.length_append]
        show _ = xcN f n + (if f n = 99 ∨ f n = 67 then 1 else 2)
        omega
    have e : awN w f g b (n + 1) = awL (awN w f g b n) (f n) g b := rfl
    by_cases c1 : f n = 99
    · refine fin [_] (by rw [e]; unfold awL; rw [if_pos c1]; exact one _ _ _) (fun r hr => by have := List.mem_singleton.mp hr; rw [this]) ?_
      rw [if_pos (Or.inl c1)]; rfl
    · by_cases c2 : f n = 67
      · refine fin [_] (by rw [e]; unfold awL; rw [if_neg c1, if_pos c2]; exact one _ _ _) (fun r hr => by have := List.mem_singleton.mp hr; rw [this]) ?_
        rw [if_pos (Or.inr c2)]; rfl
      · by_cases c3 : f n = 116
        · refine fin [_, _] (by rw [e]; unfold awL; rw [if_neg c1, if_neg c2, if_pos c3, one, one, List.append_assoc]; rfl) (fun r hr => by
            rcases List.mem_cons.mp hr with q | q
            · rw [q]
            · have := List.mem_singleton.mp q; rw [this]) ?_
          rw [if_neg (by omega)]; rfl
        · refine fin [_, _] (by rw [e]; unfold awL; rw [if_neg c1, if_neg c2, if_neg c3, one, one, List.append_assoc]; rfl) (fun r hr => by
            rcases List.mem_cons.mp hr with q | q
            · rw [q]
            · have := List.mem_singleton.mp q; rw [this]) ?_
          rw [if_neg (by omega)]; rfl
theorem awS_recs (N : Int → Int) (w : AW) (k g b : Int) : ∃ L, (awS N w k g b).2.2 = w.2.2 ++ L ∧ (∀ r ∈ L, r.2.2.2.2 = b) ∧ (L.length : Int) = xcN (fun i => N (87 + 9 * k + i)) (N (86 + 9 * k)).toNat := by
  have := awN_recs (awU w g 4) (fun i => N (87 + 9 * k + i)) g b (N (86 + 9 * k)).toNat
  rw [awU_rec] at this
  exact this
theorem awQ_by {N gp kd : Int → Int} {wk : Nat → Int} (n : Nat) : ∀ r ∈ (awQ N gp kd wk n).2.2, ∃ i, i < n ∧ r.2.2.2.2 = wk i := by
  induction n with
  | zero => intro r hr; cases hr
  | succ n ih =>
    intro r hr
    obtain ⟨L, l1, l2, l3⟩ := awS_recs N (awQ N gp kd wk n) (kd (wk n)) (gp (wk n)) (wk n)
    have hr' : r ∈ (awS N (awQ N gp kd wk n) (kd (wk n)) (gp (wk n)) (wk n)).2.2 := hr
    rw [l1] at hr'
    rcases List.mem_append.mp hr' with q | q
    · obtain ⟨i, i1, i2⟩ := ih r q
      exact ⟨i, by omega, i2⟩
    · exact ⟨n, by omega, l2 r q⟩
theorem cBy_next {N : Int → Int} (h : planOk N) {a : Int} (h1 : 0 ≤ a) (hf : isfr N a) : cBy (awS N (wkA N) (kS (stS N) a) (gS (stS N) a) a).2.2 a = xcN (fun i => N (87 + 9 * kS (stS N) a + i)) (N (86 + 9 * kS (stS N) a)).toNat := by
  obtain ⟨L, l1, l2, l3⟩ := awS_recs N (wkA N) (kS (stS N) a) (gS (stS N) a) a
  have q7 := h.2.2.2.2.2.2.1
  unfold cBy
  rw [l1, List.countP_append]
  have e1 : (wkA N).2.2.countP (fun r => r.2.2.2.2 = a) = 0 := by
    rw [List.countP_eq_zero]
    intro r hr z
    have z' : r.2.2.2.2 = a := by simpa using z
    obtain ⟨i, i1, i2⟩ := awQ_by (N 1).toNat r hr
    have i2' : r.2.2.2.2 = N (156 + (i : Nat)) := i2
    have := ((ws_bits h (N 1).toNat (by omega)).2.2 a.toNat).mpr ⟨i, i1, by rw [← i2', z']; omega⟩
    rw [hf.1] at this
    cases this
  have e2 : L.countP (fun r => r.2.2.2.2 = a) = L.length := by
    rw [List.countP_eq_length]
    intro r hr
    simp [l2 r hr]
  rw [e1, e2, ← l3]
  simp
theorem wrong_ok {σ τ : St} (hR : Rel σ τ) {a : Int} {Q : Int → St → Prop} (ra : i64 a = a) (h1 : ¬ (0 ≤ a ∧ a < (stS (τ 1)).length) → Q (-1000000001) τ) (h3 : 0 ≤ a → a < (stS (τ 1)).length → ¬ isfr (τ 1) a → Q (-1000000003) τ) (h6 : 0 ≤ a → a < (stS (τ 1)).length → isfr (τ 1) a → ¬ enough (τ 1) a → ∀ τ', frm mwK mwJ τ τ' → Q (-1000000006) τ')
    (h0 : 0 ≤ a → a < (stS (τ 1)).length → isfr (τ 1) a → enough (τ 1) a → ∀ τ', MW τ' (awS (τ 1) (wkA (τ 1)) (kS (stS (τ 1)) a) (gS (stS (τ 1)) a) a) → frm mwK mwJ τ τ' → Q 0 τ') : V_M_wrong τ a Q := by
  obtain ⟨hA, p1, p2, p3, p4, p5, p6, p7, p8⟩ := hR
  have hR : Rel σ τ := ⟨hA, p1, p2, p3, p4, p5, p6, p7, p8⟩
  obtain ⟨o1, o2, o3, o4⟩ := stS_ok p1
  unfold V_M_wrong
  refine MisStitch_ok p4 o2 ra (fun hc => ⟨fun _ => ?_, fun w => absurd w n10⟩) (fun hc => ⟨fun w => absurd z00 w, fun _ => h1 hc⟩)
  refine MisFree_ok p1 p4 hc.1 hc.2 (fun hf => ⟨fun _ => ?_, fun w => absurd w n10⟩) (fun hf => ⟨fun w => absurd z00 w, fun _ => h3 hc.1 hc.2 hf⟩)
  refine Mwork hR (fun t m f => ?_)
  obtain ⟨wg, wl⟩ := wkA_g p1
  have hst := plan_st p1
  have hsr := hst.2.2.1 a hc.1 hc.2
  obtain ⟨g1, g2⟩ := GM_at p4 hc.1 hc.2
  have t1 : t 1 = τ 1 := f.1 1 (by decide) (by decide)
  have t6 : t 6 a = gS (stS (τ 1)) a := by rw [f.1 6 (by decide) (by decide)]; exact g1
  have t7 : t 7 a = kS (stS (τ 1)) a := by rw [f.1 7 (by decide) (by decide)]; exact g2
  refine Mworks_ok m wg.1 hc.1 (by omega) (by rw [t7]; exact hsr.1) (by rw [t7]; exact hsr.2.1) (by rw [t6]; exact hsr.2.2.1) (by rw [t6]; exact hsr.2.2.2) (by rw [t1, t7]; exact hst.2.2.2 _ hsr.1 hsr.2.1) (by omega) (fun v m2 f2 => ?_)
  rw [t1, t6, t7] at m2
  have fv := f.tr f2
  have v1 : v 1 = τ 1 := fv.1 1 (by decide) (by decide)
  have huse : ∀ x, 0 ≤ (awS (τ 1) (wkA (τ 1)) (kS (stS (τ 1)) a) (gS (stS (τ 1)) a) a).2.1 x ∧ (awS (τ 1) (wkA (τ 1)) (kS (stS (τ 1)) a) (gS (stS (τ 1)) a) a).2.1 x ≤ 2036 := fun x => awS_use (hst.2.2.2 _ hsr.1 hsr.2.1) (wkA_use p1) x
  obtain ⟨pl1, pl2, pl3⟩ := hR.pl
  have hgl := gS_lt p1 hc.1 hc.2
  have hbd : awB (2 * τ 1 0) (awS (τ 1) (wkA (τ 1)) (kS (stS (τ 1)) a) (gS (stS (τ 1)) a) a) := awS_b hgl.1 (by omega) (wkA_b p1)
  refine wl1 (fun i u => u = v ∧ 0 ≤ i ∧ i ≤ 2 * τ 1 0 ∧ ∀ x, 0 ≤ x → x < i → (awS (τ 1) (wkA (τ 1)) (kS (stS (τ 1)) a) (gS (stS (τ 1)) a) a).2.1 x ≤ τ 1 (140 + x)) (fun i _ => (2 * τ 1 0 - i).toNat) ⟨rfl, by omega, by omega, fun x b c => by omega⟩ ?_
  intro bk i u hI hb
  obtain ⟨rfl, i1, i2, i3⟩ := hI
  dsimp only [V_M_threads]
  rw [v1, i32_id (x := i) (by omega) (by omega), i32_id (x := 2 * τ 1 0) (by omega) (by omega), i32_id (x := 140 + i) (by omega) (by omega)]
  refine ⟨fun hd => h0 hc.1 hc.2 hf (fun x b c => ?_) u m2 fv, fun hd => ⟨⟨i1, by omega⟩, ⟨by omega, by omega⟩, ?_⟩⟩
  · by_cases cx : x < 2 * τ 1 0
    · exact i3 x b (by omega)
    · rw [hbd.2.2 x (by omega)]
      exact (p1.2.2.2.2.2.1 x b c).1
  · have hw := p1.2.2.2.2.2.1 i i1 (by omega)
    have hu := huse i
    rw [m2.2.1 i i1 (by omega), i32_id (x := (awS (τ 1) (wkA (τ 1)) (kS (stS (τ 1)) a) (gS (stS (τ 1)) a) a).2.1 i) (by omega) (by omega), i32_id (x := τ 1 (140 + i)) (by omega) (by omega)]
    refine ⟨fun he => hb _ _ ⟨rfl, by omega, by omega, fun x b c => ?_⟩ (by omega), fun he => h6 hc.1 hc.2 hf (fun z => by have := z i i1 (by omega); omega) u fv⟩
    by_cases cx : x = i
    · rw [cx]; exact he
    · exact i3 x b (by omega)
theorem doWork_ok {τ : St} {a : Int} {w : AW} {Q : Int → St → Prop} (hn : 0 ≤ τ 1 1) (hn2 : τ 1 1 < 48) (ha : i32 a = a) (hM : MW τ w) (hlen : w.2.2.length ≤ 800) (hby : ∀ r ∈ w.2.2, i32 r.2.2.2.2 = r.2.2.2.2) (h : ∀ τ', τ' 1 = wkN (τ 1) a → (∀ k, k ≠ 1 → τ' k = τ k) → Q (cBy w.2.2 a) τ') : V_M_doWork τ a Q := by
  unfold V_M_doWork
  rw [i32_id (x := 156 + τ 1 1) (by omega) (by omega)]
  refine ⟨⟨by omega, by omega⟩, fun t1 e1 t2 e2 => ?_⟩
  have hk : ∀ k, k ≠ 1 → t2 k = τ k := fun k x => by rw [e2, ss_row _ x, e1, ss_row _ x]
  have h1 : t2 1 = wkN (τ 1) a := by
    rw [e2, ss_self, e1]
    funext i
    unfold wkN
    by_cases c : i = 1
    · rw [if_pos c, if_pos c, ss_ne _ _ (by omega)]
    · rw [if_neg c, if_neg c, ss_self]
  obtain ⟨m1, m2, m3, m4⟩ := hM
  have cpos : ∀ n, 0 ≤ cBy (w.2.2.take n) a ∧ cBy (w.2.2.take n) a ≤ n := by
    intro n
    unfold cBy
    have := List.countP_le_length (p := fun r : CR => decide (r.2.2.2.2 = a)) (l := w.2.2.take n)
    rw [List.length_take] at this
    omega
  refine wl2 (fun i y u => u = t2 ∧ ∃ n : Nat, n ≤ w.2.2.length ∧ i = n ∧ y = cBy (w.2.2.take n) a) (fun i _ _ => (w.2.2.length - i).toNat) ⟨rfl, 0, by omega, rfl, by simp [cBy]⟩ ?_
  intro bk i y u hI hb
  obtain ⟨rfl, n, hn, rfl, rfl⟩ := hI
  rw [hk 0 (by decide), m3, i32_id (x := (n : Int)) (by omega) (by omega), i32_id (x := (w.2.2.length : Int)) (by omega) (by omega), ha]
  refine ⟨fun hc => ?_, fun hc => ⟨⟨by omega, by omega⟩, ?_⟩⟩
  · have : n = w.2.2.length := by omega
    subst this
    rw [List.take_length]
    exact h u h1 hk
  · have hnl : n < w.2.2.length := by omega
    obtain ⟨r, hr⟩ : ∃ r, w.2.2[n]? = some r := ⟨w.2.2[n]'hnl, List.getElem?_eq_getElem hnl⟩
    rw [hk 17 (by decide), (m4 n r hr).2.2.2.2, hby r (List.mem_of_getElem? hr)]
    have e5 : cBy (w.2.2.take (n + 1)) a = cBy (w.2.2.take n) a + (if r.2.2.2.2 = a then 1 else 0) := by
      unfold cBy
      rw [List.take_add_one, hr, List.countP_append]
      by_cases c : r.2.2.2.2 = a <;> simp [c]
    refine ⟨fun hd y' hy' => hb _ _ _ ⟨rfl, n + 1, by omega, by omega, by rw [hy', e5, if_neg hd]⟩ (by omega), fun hd y' hy' => hb _ _ _ ⟨rfl, n + 1, by omega, by omega, by rw [hy', e5, if_pos hd]⟩ (by omega)⟩
theorem crossings_ok {σ : St} {N : Int → Int} {k : Int} {Q : Int → St → Prop} (hk : 0 ≤ k) (hk2 : k < 6) (hw : wordOk N k) (hr : wdRel σ N k) (h : Q (xcN (fun i => N (87 + 9 * k + i)) (N (86 + 9 * k)).toNat) σ) : V_Plan_crossingsOf σ k Q := by
  obtain ⟨w1, w2, w3⟩ := hw
  unfold V_Plan_crossingsOf
  refine wl2 (fun i y u => u = σ ∧ ∃ n : Nat, (n : Int) ≤ N (86 + 9 * k) ∧ i = n ∧ y = xcN (fun i => N (87 + 9 * k + i)) n) (fun i _ _ => (N (86 + 9 * k) - i).toNat) ⟨rfl, 0, by omega, rfl, rfl⟩ ?_
  intro bk i y u hI hb
  obtain ⟨rfl, n, hn, rfl, rfl⟩ := hI
  rw [i32_id (x := k) (by omega) (by omega), hr.1, i32_id (x := (n : Int)) (by omega) (by omega), i32_id (x := N (86 + 9 * k)) (by omega) (by omega), i32_id (x := k * 8 + (n : Int)) (by omega) (by omega)]
  refine ⟨⟨hk, hk2⟩, fun hc => ?_, fun hc => ⟨⟨by omega, by omega⟩, fun c hcc => ?_⟩⟩
  · have : (N (86 + 9 * k)).toNat = n := by omega
    rw [this] at h
    exact h
  · rw [hr.2 n (by omega) (by omega)] at hcc
    have := w3 n (by omega) hc
    rw [← hcc] at this
    rw [i32_id (x := c) (by omega) (by omega)]
    have st : ∀ v : Int, v = xcN (fun i => N (87 + 9 * k + i)) n + (if c = 99 ∨ c = 67 then 1 else 2) → bk ((n : Int) + 1) v u := by
      intro v hv
      refine hb _ _ _ ⟨rfl, n + 1, by omega, by omega, ?_⟩ (by omega)
      show v = xcN (fun i => N (87 + 9 * k + i)) n + (if N (87 + 9 * k + n) = 99 ∨ N (87 + 9 * k + n) = 67 then 1 else 2)
      rw [hv, hcc]
    refine ⟨fun h1 v hv => st v (by rw [hv, if_pos (Or.inl h1)]), fun h1 => ⟨fun h2 v hv => st v (by rw [hv, if_neg (by omega)]), fun h2 v hv => st v (by rw [hv, if_pos (Or.inr h2)])⟩⟩
theorem by_rng {N : Int → Int} (h : planOk N) {a : Int} (h1 : 0 ≤ a) (h2 : a < (stS N).length) : ∀ r ∈ (awS N (wkA N) (kS (stS N) a) (gS (stS N) a) a).2.2, i32 r.2.2.2.2 = r.2.2.2.2 := by
  have hl := (stS_ok h).2.1
  intro r hr
  obtain ⟨L, l1, l2, l3⟩ := awS_recs N (wkA N) (kS (stS N) a) (gS (stS N) a) a
  rw [l1] at hr
  rcases List.mem_append.mp hr with q | q
  · obtain ⟨i, i1, i2⟩ := awQ_by (N 1).toNat r q
    have := wk_all h i i1
    have i2' : r.2.2.2.2 = N (156 + (i : Nat)) := i2
    rw [i2']
    exact i32_id (by omega) (by omega)
  · rw [l2 r q]
    exact i32_id (by omega) (by omega)
theorem op_work {σ τ : St} (hR : Rel σ τ) {a1 : Int} (r1 : i32 a1 = a1) : V_P_work σ a1 (fun r σ' => V_M_work τ a1 (fun r' τ' => i32 r = i32 r' ∧ Rel σ' τ')) := by
  have p1 := hR.2.1
  have hl := (stS_ok p1).2.1
  have q7 := p1.2.2.2.2.2.2.1
  have q8 := p1.2.2.2.2.2.2.2.1
  unfold V_P_work
  rw [r1]
  have r64 := i64_of32 r1
  have bad : ∀ (k e : Int) (σ' : St), Rel σ' τ → 1 ≤ k → k < 8 → e = -1000000000 - k → (∀ Q : Int → St → Prop, (∀ τ', frm mwK mwJ τ τ' → Q e τ') → V_M_wrong τ a1 Q) → ((i32 k = 0 → (0 ≤ a1 ∧ a1 < 48) ∧ V_Plan_crossingsOf σ' (σ' 19 a1) (fun (r4 : Int) (σ3 : St) => V_M_work τ a1 (fun r' τ' => i32 r4 = i32 r' ∧ Rel σ3 τ'))) ∧ (¬ i32 k = 0 → V_P_fail σ' k (fun (r6 : Int) (σ5 : St) => V_M_work τ a1 (fun r' τ' => i32 r6 = i32 r' ∧ Rel σ5 τ')))) := by
    intro k e σ' hR' k1 k2 he hM
    rw [i32_id (x := k) (by omega) (by omega)]
    refine ⟨fun z => by omega, fun _ => fail_ok (by omega) k2 ?_⟩
    unfold V_M_work
    rw [r1]
    refine hM _ (fun τ' f => ⟨fun z => ?_, fun _ => errs_ok (k := k) (by omega) k2 he ⟨by rw [he], ?_⟩⟩)
    · rw [i32_id (x := e) (by omega) (by omega)] at z
      omega
    · exact (hR'.fm (mw_sc f)).err (by omega) k2
  refine try_ok hR r64 (fun hc => ?_) (fun c1 c2 hf => ?_) (fun c1 c2 hf hn σ' hR' => ?_) (fun c1 c2 hf hn σ' hfr hR' => ?_)
  · exact bad 1 (-1000000001) σ hR (by decide) (by decide) (by decide) (fun Q hQ => wrong_ok hR r64 (fun _ => hQ τ frm.rf) (fun x y => absurd ⟨x, y⟩ hc) (fun x y => absurd ⟨x, y⟩ hc) (fun x y => absurd ⟨x, y⟩ hc))
  · exact bad 3 (-1000000003) σ hR (by decide) (by decide) (by decide) (fun Q hQ => wrong_ok hR r64 (fun z => absurd ⟨c1, c2⟩ z) (fun _ _ _ => hQ τ frm.rf) (fun _ _ z => absurd z hf) (fun _ _ z => absurd z hf))
  · exact bad 6 (-1000000006) σ' hR' (by decide) (by decide) (by decide) (fun Q hQ => wrong_ok hR r64 (fun z => absurd ⟨c1, c2⟩ z) (fun _ _ z => absurd hf z) (fun _ _ _ _ τ' f => hQ τ' f) (fun _ _ _ z => absurd z hn))
  · refine ⟨fun _ => ⟨⟨c1, by omega⟩, ?_⟩, fun w => absurd z00 w⟩
    have hst := plan_st p1
    have hsr := hst.2.2.1 a1 c1 c2
    obtain ⟨f19, f3, f4, _⟩ := hfr
    obtain ⟨g1, g2⟩ := GC_at hR.2.2.2.1 c1 c2
    rw [f19, g2]
    obtain ⟨n1, n2, n3, n4, n5⟩ := wkN_ok p1 c1 c2 hf
    refine crossings_ok (N := τ 1) hsr.1 hsr.2.1 (hst.2.2.2 _ hsr.1 hsr.2.1) ?_ ?_
    · have := PR_wd hR.2.2.1 hsr.1 hsr.2.1
      unfold wdRel
      rw [f3, f4]
      exact this
    · unfold V_M_work
      rw [r1]
      refine wrong_ok hR r64 (fun z => absurd ⟨c1, c2⟩ z) (fun _ _ z => absurd hf z) (fun _ _ _ z => absurd hn z) (fun _ _ _ _ τ' m f => ⟨fun _ => ?_, fun w => absurd z00 w⟩)
      have t1 : τ' 1 = τ 1 := f.1 1 (by decide) (by decide)
      have hlen : (awS (τ 1) (wkA (τ 1)) (kS (stS (τ 1)) a1) (gS (stS (τ 1)) a1) a1).2.2.length ≤ 800 := by
        have := awS_len (N := τ 1) (w := wkA (τ 1)) (k := kS (stS (τ 1)) a1) (g := gS (stS (τ 1)) a1) (b := a1) (hst.2.2.2 _ hsr.1 hsr.2.1).2.1
        have := (wkA_g p1).2
        omega
      refine doWork_ok (by rw [t1]; exact q7) (by rw [t1]; omega) r1 m hlen (by_rng p1 c1 c2) (fun τ2 m1 m2 => ⟨by rw [cBy_next p1 c1 hf], ?_⟩)
      refine hR' τ2 (by rw [m1, t1]) (fun k x y z => ?_) (fun j z => ?_)
      · rw [m2 k y]
        exact (mw_sc f).1 k x z
      · rw [m2 0 (by decide)]
        exact (mw_sc f).2 j z
