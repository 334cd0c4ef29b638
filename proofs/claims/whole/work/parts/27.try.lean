-- threads beyond the pairs
def awB (n : Int) (w : AW) : Prop := (∀ i, 0 ≤ i → i < n → 0 ≤ w.1 i ∧ w.1 i < n) ∧ (∀ i, n ≤ i → w.1 i = i) ∧ ∀ t, n ≤ t → w.2.1 t = 0
theorem aw0_b (n : Int) : awB n aw0 := ⟨fun i a b => ⟨a, b⟩, fun i _ => rfl, fun t _ => rfl⟩
theorem awX_b {n : Int} {w : AW} {p s b : Int} (hp : 0 ≤ p) (hp2 : p + 1 < n) (h : awB n w) : awB n (awX w p s b) := by
  obtain ⟨h1, h2, h3⟩ := h
  have a1 := h1 p hp (by omega)
  have a2 := h1 (p + 1) (by omega) hp2
  refine ⟨fun i a c => ?_, fun i a => ?_, fun t a => ?_⟩
  · show 0 ≤ upf (upf w.1 p (w.1 (p + 1))) (p + 1) (w.1 p) i ∧ upf (upf w.1 p (w.1 (p + 1))) (p + 1) (w.1 p) i < n
    unfold upf
    split
    · exact a1
    · split
      · exact a2
      · exact h1 i a c
  · show upf (upf w.1 p (w.1 (p + 1))) (p + 1) (w.1 p) i = i
    unfold upf
    rw [if_neg (by omega), if_neg (by omega)]
    exact h2 i a
  · show upf (upf w.2.1 (xOv w p s) (w.2.1 (xOv w p s) + 2)) (xUn w p s) (w.2.1 (xUn w p s) + 1) t = 0
    have b1 : xOv w p s < n := by unfold xOv; split <;> omega
    have b2 : xUn w p s < n := by unfold xUn; split <;> omega
    unfold upf
    rw [if_neg (by omega), if_neg (by omega)]
    exact h3 t a
theorem awL_b {n : Int} {w : AW} {c g b : Int} (hg : 0 ≤ g) (hg2 : 2 * g + 3 < n) (h : awB n w) : awB n (awL w c g b) := by
  unfold awL
  split
  · exact awX_b (by omega) (by omega) h
  · split
    · exact awX_b (by omega) (by omega) h
    · split
      · exact awX_b (by omega) (by omega) (awX_b (by omega) (by omega) h)
      · exact awX_b (by omega) (by omega) (awX_b (by omega) (by omega) h)
theorem awN_b {n : Int} {w : AW} {f : Int → Int} {g b : Int} (hg : 0 ≤ g) (hg2 : 2 * g + 3 < n) (h : awB n w) (m : Nat) : awB n (awN w f g b m) := by
  induction m with
  | zero => exact h
  | succ m ih => exact awL_b hg hg2 ih
theorem awU_b {n : Int} {w : AW} {g : Int} (hg : 0 ≤ g) (hg2 : 2 * g + 3 < n) (h : awB n w) (m : Nat) (hm : m ≤ 4) : awB n (awU w g m) := by
  induction m with
  | zero => exact h
  | succ m ih =>
    obtain ⟨h1, h2, h3⟩ := ih (by omega)
    refine ⟨h1, h2, fun t a => ?_⟩
    show upf (awU w g m).2.1 ((awU w g m).1 (2 * g + m)) ((awU w g m).2.1 ((awU w g m).1 (2 * g + m)) + 1) t = 0
    have := h1 (2 * g + m) (by omega) (by omega)
    unfold upf
    rw [if_neg (by omega)]
    exact h3 t a
theorem awS_b {n : Int} {N : Int → Int} {w : AW} {k g b : Int} (hg : 0 ≤ g) (hg2 : 2 * g + 3 < n) (h : awB n w) : awB n (awS N w k g b) := awN_b hg hg2 (awU_b hg hg2 h 4 (by omega)) _
theorem gRow_gap {N : Int → Int} {S : List GR} {r : Int} {gaps n : Nat} (hS : ∀ (i : Nat) (x : GR), S[i]? = some x → x.2.1 < gaps) (hn : n ≤ gaps) : ∀ (i : Nat) (x : GR), (gRow N S r n)[i]? = some x → x.2.1 < gaps := by
  induction n with
  | zero => exact hS
  | succ n ih =>
    intro i x hx
    unfold gRow at hx
    split at hx
    · rcases gNew_at _ _ _ _ hx with ⟨_, e⟩ | ⟨_, e⟩
      · exact ih (by omega) i x e
      · rw [e]
        show (n : Int) < gaps
        omega
    · exact ih (by omega) i x hx
theorem gAll_gap {N : Int → Int} {gaps : Nat} (n : Nat) : ∀ (i : Nat) (x : GR), (gAll N gaps n)[i]? = some x → x.2.1 < gaps := by
  induction n with
  | zero => intro i x hx; simp [gAll] at hx
  | succ n ih => exact gRow_gap ih (Nat.le_refl _)
theorem gS_lt {N : Int → Int} (h : planOk N) {s : Int} (h1 : 0 ≤ s) (h2 : s < (stS N).length) : 0 ≤ gS (stS N) s ∧ gS (stS N) s < N 0 - 1 := by
  obtain ⟨o1, -⟩ := stS_ok h
  obtain ⟨x, x1, x2, x3, x4, x5⟩ := S_at h1 h2
  have := o1 _ x x1
  have := gAll_gap (N := N) (gaps := (N 0 - 1).toNat) 12 _ x x1
  have := h.1
  rw [x2]
  omega
theorem awQ_b {N : Int → Int} (h : planOk N) {wk : Nat → Int} (n : Nat) (hw : ∀ i, i < n → 0 ≤ wk i ∧ wk i < (stS N).length) : awB (2 * N 0) (awQ N (gS (stS N)) (kS (stS N)) wk n) := by
  induction n with
  | zero => exact aw0_b _
  | succ n ih =>
    have h1 := hw n (by omega)
    have h2 := gS_lt h h1.1 h1.2
    exact awS_b h2.1 (by omega) (ih (fun i hi => hw i (by omega)))
theorem wk_all {N : Int → Int} (h : planOk N) : ∀ i, i < (N 1).toNat → 0 ≤ N (156 + (i : Nat)) ∧ N (156 + (i : Nat)) < (stS N).length := fun i hi => by
  have := wk_rng h (i := i) (by omega)
  omega
theorem wkA_b {N : Int → Int} (h : planOk N) : awB (2 * N 0) (wkA N) := awQ_b h _ (wk_all h)
theorem alA_b {N : Int → Int} (h : planOk N) (n : Nat) (hn : n ≤ (stS N).length) : awB (2 * N 0) (alA N n) := awQ_b (wk := fun i : Nat => (i : Int)) h _ (fun i hi => ⟨by omega, by omega⟩)
-- who lacks
theorem lack_ok {σ : St} {o : Nat} {N u : Int → Int} {Q : Int → St → Prop} (hU : ∀ t, 0 ≤ t → t < 16 → σ (o + 3) t = u t ∧ 0 ≤ u t ∧ u t ≤ 3000) (hW : ∀ t, 0 ≤ t → t < 16 → σ 5 t = N (140 + t) ∧ 0 ≤ N (140 + t) ∧ N (140 + t) ≤ 9999)
    (h1 : (∀ t, 0 ≤ t → t < 16 → u t ≤ N (140 + t)) → Q (-1) σ) (h2 : ∀ r, 0 ≤ r → r < 16 → N (140 + r) < u r → (∀ t, 0 ≤ t → t < r → u t ≤ N (140 + t)) → Q r σ) : V_Weave_leastLacking o σ Q := by
  unfold V_Weave_leastLacking
  refine wl1 (fun i v => v = σ ∧ 0 ≤ i ∧ i ≤ 16 ∧ ∀ t, 0 ≤ t → t < i → u t ≤ N (140 + t)) (fun i _ => (16 - i).toNat) ⟨rfl, by omega, by omega, fun t a b => by omega⟩ ?_
  intro bk i v hI hb
  obtain ⟨rfl, i1, i2, i3⟩ := hI
  rw [i32_id (x := i) (by omega) (by omega)]
  refine ⟨fun hc => h1 (fun t a b => i3 t a (by omega)), fun hc => ⟨fun hc2 => by omega, fun _ => ⟨⟨i1, hc⟩, ⟨i1, hc⟩, ?_⟩⟩⟩
  obtain ⟨u1, u2, u3⟩ := hU i i1 hc
  obtain ⟨w1, w2, w3⟩ := hW i i1 hc
  rw [u1, w1, i32_id (x := u i) (by omega) (by omega), i32_id (x := N (140 + i)) (by omega) (by omega)]
  refine ⟨fun hd => hb _ _ ⟨rfl, by omega, by omega, fun t a b => ?_⟩ (by omega), fun hd => h2 i i1 hc hd i3⟩
  by_cases c : t = i
  · rw [c]; exact hd
  · exact i3 t a (by omega)
/-- one more in THE WORK -/
def wkN (N : Int → Int) (a : Int) : Int → Int := fun i => if i = 1 then N 1 + 1 else if i = 156 + N 1 then a else N i
def enough (N : Int → Int) (a : Int) : Prop := ∀ t, 0 ≤ t → t < 16 → (awS N (wkA N) (kS (stS N) a) (gS (stS N) a) a).2.1 t ≤ N (140 + t)
def isfr (N : Int → Int) (a : Int) : Prop := (wsN N (N 1).toNat).testBit a.toNat = false ∧ ∀ i, (bS (stS N) a).testBit i = true → (wsN N (N 1).toNat).testBit i = true
theorem wsN_lt {N : Int → Int} {S : List GR} (h : planOk N) (hw : N 1 = (stS N).length) {s : Int} (h1 : 0 ≤ s) (h2 : s < (stS N).length) : (wsN N (N 1).toNat).testBit s.toNat = true := by
  -- as many different ones as there are: all
  obtain ⟨b1, b2, b3⟩ := ws_bits h (N 1).toNat (by have := h.2.2.2.2.2.2.1; omega)
  have inj : ∀ i j : Nat, i < j → (j : Int) < N 1 → N (156 + i) ≠ N (156 + j) := by
    intro i j hij hj e
    have hwj := h.2.2.2.2.2.2.2.2 j hj
    have hr := wk_rng h (i := j) hj
    have := ((ws_bits h j (by omega)).2.2 (N (156 + j)).toNat).mpr ⟨i, hij, by rw [e]; omega⟩
    rw [hwj.2.2.1] at this
    cases this
  -- pigeonhole on lists
  have key : ∀ (m : Nat) (f : Nat → Nat), (∀ i, i < m → f i < m) → (∀ i j, i < j → j < m → f i ≠ f j) → ∀ s, s < m → ∃ i, i < m ∧ f i = s := by
    intro m
    induction m with
    | zero => intro f _ _ s hs; omega
    | succ m ih =>
      intro f hf hi s hs
      by_cases c : ∃ i, i < m ∧ f i = m
      · obtain ⟨i, hi1, hi2⟩ := c
        -- swap the value m at i with the last
        have hlast : f m ≠ m := fun z => hi i m hi1 (by omega) (by rw [hi2, z])
        by_cases cs : s = m
        · exact ⟨i, by omega, by rw [hi2, cs]⟩
        · by_cases cl : s = f m
          · exact ⟨m, by omega, cl.symm⟩
          · obtain ⟨k, k1, k2⟩ := ih (fun j => if j = i then f m else f j) (fun j hj => by
              split
              · have := hf m (by omega); omega
              · have := hf j (by omega)
                have hne : f j ≠ m := fun z => by
                  rename_i hji
                  rcases Nat.lt_or_ge j i with q | q
                  · exact hi j i q (by omega) (by rw [z, hi2])
                  · exact hi i j (by omega) (by omega) (by rw [z, hi2])
                omega) (fun j k hjk hk => by
              split
              · rename_i e1
                split
                · omega
                · exact fun z => hi k m (by omega) (by omega) z.symm
              · split
                · exact fun z => hi j m (by omega) (by omega) z
                · exact hi j k hjk (by omega)) s (by omega)
            by_cases ck : k = i
            · simp only [ck, if_true] at k2
              exact absurd k2.symm cl
            · simp only [ck, if_false] at k2
              exact ⟨k, by omega, k2⟩
      · by_cases cs : s = m
        · -- then nothing takes m but the last, or none: contradiction by counting below
          by_cases cm : f m = m
          · exact ⟨m, by omega, by rw [cm, cs]⟩
          · exfalso
            -- f maps m+1 numbers into m
            have hfm : ∀ i, i < m + 1 → f i < m := fun i hi' => by
              have := hf i hi'
              rcases Nat.lt_or_ge i m with q | q
              · have : f i ≠ m := fun z => c ⟨i, q, z⟩
                omega
              · have : i = m := by omega
                subst this
                omega
            obtain ⟨k, k1, k2⟩ := ih f (fun i hi' => hfm i (by omega)) (fun i j a b => hi i j a (by omega)) (f m) (hfm m (by omega))
            exact hi k m k1 (by omega) k2
        · by_cases cm : f m = s
          · exact ⟨m, by omega, cm⟩
          · by_cases cm2 : f m = m
            · obtain ⟨k, k1, k2⟩ := ih f (fun i hi' => by
                have := hf i (by omega)
                have : f i ≠ m := fun z => c ⟨i, hi', z⟩
                omega) (fun i j a b => hi i j a (by omega)) s (by omega)
              exact ⟨k, by omega, k2⟩
            · obtain ⟨k, k1, k2⟩ := ih f (fun i hi' => by
                have := hf i (by omega)
                have : f i ≠ m := fun z => c ⟨i, hi', z⟩
                omega) (fun i j a b => hi i j a (by omega)) s (by omega)
              exact ⟨k, by omega, k2⟩
  obtain ⟨k, k1, k2⟩ := key (stS N).length (fun i => (N (156 + i)).toNat) (fun i hi => by
    have := wk_rng h (i := i) (by omega)
    show (N (156 + i)).toNat < _
    omega) (fun i j hij hj z => by
    have h1 := wk_rng h (i := i) (by omega)
    have h2 := wk_rng h (i := j) (by omega)
    refine inj i j hij (by omega) ?_
    have z' : (N (156 + i)).toNat = (N (156 + j)).toNat := z
    omega) s.toNat (by omega)
  have hr := wk_rng h (i := k) (by omega)
  have k2' : (N (156 + k)).toNat = s.toNat := k2
  exact (b3 s.toNat).mpr ⟨k, by omega, by omega⟩
theorem wkN_ok {N : Int → Int} (h : planOk N) {a : Int} (h1 : 0 ≤ a) (h2 : a < (stS N).length) (hf : isfr N a) : planOk (wkN N a) ∧ stS (wkN N a) = stS N ∧ wkA (wkN N a) = awS N (wkA N) (kS (stS N) a) (gS (stS N) a) a ∧ wsI (wkN N a) (wkN N a 1).toNat = lro (wsI N (N 1).toNat) (lsh 1 a) ∧ N 1 < (stS N).length := by
  have q7 := h.2.2.2.2.2.2.1
  have q8 := h.2.2.2.2.2.2.2.1
  have hl := (stS_ok h).2.1
  have hlt : N 1 < (stS N).length := by
    by_cases c : N 1 = (stS N).length
    · have := wsN_lt (S := stS N) h c h1 h2
      rw [hf.1] at this
      cases this
    · omega
  have e1 : wkN N a 1 = N 1 + 1 := by unfold wkN; rw [if_pos rfl]
  have eo : ∀ i, i ≠ 1 → i ≠ 156 + N 1 → wkN N a i = N i := fun i x y => by unfold wkN; rw [if_neg x, if_neg y]
  have ew : wkN N a (156 + N 1) = a := by unfold wkN; rw [if_neg (by omega), if_pos rfl]
  obtain ⟨n, hn⟩ : ∃ n : Nat, N 1 = n := ⟨(N 1).toNat, by omega⟩
  have en : (N 1).toNat = n := by omega
  have en1 : (wkN N a 1).toNat = n + 1 := by omega
  have hS : stS (wkN N a) = stS N := stS_congr (eo 0 (by decide) (by omega)) h.2.1 (fun i x y => eo i (by omega) (by omega))
  have hws : ∀ k : Nat, k ≤ n → wsN (wkN N a) k = wsN N k ∧ wsI (wkN N a) k = wsI N k := fun k hk => wsN_congr k (fun i hi => eo _ (by omega) (by omega))
  have eN : ∀ i : Nat, i < n → wkN N a (156 + i) = N (156 + i) := fun i hi => eo _ (by omega) (by omega)
  have eN' : wkN N a (156 + (n : Nat)) = a := by rw [← hn]; exact ew
  refine ⟨⟨?_, ?_, ?_, ?_, ?_, ?_, ?_, ?_, ?_⟩, hS, ?_, ?_, hlt⟩
  · rw [eo 0 (by decide) (by omega)]; exact h.1
  · rw [eo 0 (by decide) (by omega)]; exact h.2.1
  · refine ⟨fun k x y => ?_, fun r g x1 x2 x3 x4 => ?_⟩
    · rw [eo _ (by omega) (by omega)]; exact h.2.2.1.1 k x y
    · rw [eo _ (by omega) (by omega), eo _ (by omega) (by omega)]; exact h.2.2.1.2 r g x1 x2 x3 x4
  · intro r g x1 x2 x3 x4
    rw [eo 0 (by decide) (by omega)] at x3
    have := h.1
    rw [eo _ (by omega) (by omega)]
    exact h.2.2.2.1 r g x1 x2 x3 x4
  · intro k x y
    obtain ⟨w1, w2, w3⟩ := h.2.2.2.2.1 k x y
    unfold wordOk
    rw [eo _ (by omega) (by omega)]
    refine ⟨w1, w2, fun i z1 z2 => ?_⟩
    rw [eo _ (by omega) (by omega)]
    exact w3 i z1 z2
  · intro t x y
    rw [eo _ (by omega) (by omega)]
    exact h.2.2.2.2.2.1 t x y
  · omega
  · rw [hS]; omega
  · rw [hS]
    intro k hk
    rw [e1] at hk
    by_cases c : k = n
    · subst c
      rw [eN', (hws k (Nat.le_refl _)).1, ← en]
      exact ⟨h1, h2, hf.1, hf.2⟩
    · rw [eN k (by omega), (hws k (by omega)).1]
      exact h.2.2.2.2.2.2.2.2 k (by omega)
  · unfold wkA
    rw [hS, en1, en]
    show awS (wkN N a) (awQ (wkN N a) (gS (stS N)) (kS (stS N)) (fun i => wkN N a (156 + i)) n) (kS (stS N) (wkN N a (156 + (n : Nat)))) (gS (stS N) (wkN N a (156 + (n : Nat)))) (wkN N a (156 + (n : Nat))) = _
    rw [eN']
    have hwk : ∀ i, i < n → 0 ≤ N (156 + (i : Nat)) ∧ N (156 + (i : Nat)) < (stS N).length := fun i hi => by have := wk_rng h (i := i) (by omega); omega
    have hst := plan_st h
    have hsr := hst.2.2.1 a h1 h2
    rw [awQ_congrN hst (fun i x y => eo i (by omega) (by omega)) n hwk (fun i hi => eN i hi)]
    exact awS_congr hsr.1 hsr.2.1 (hst.2.2.2 _ hsr.1 hsr.2.1) (fun i x y => eo i (by omega) (by omega))
  · rw [en1, en]
    show lro (wsI (wkN N a) n) (lsh 1 (wkN N a (156 + (n : Nat)))) = _
    rw [eN', (hws n (Nat.le_refl _)).2]
