-- PURE: a weave as it is told: which thread lies where, what each used, the crossings (place, sign, over, under, stitch)
abbrev CR : Type := Int × Int × Int × Int × Int
abbrev AW : Type := (Int → Int) × (Int → Int) × List CR
def upf (f : Int → Int) (i v : Int) : Int → Int := fun j => if j = i then v else f j
def aw0 : AW := (fun i => i, fun _ => 0, [])
def xOv (w : AW) (p s : Int) : Int := if s = 1 then w.1 p else w.1 (p + 1)
def xUn (w : AW) (p s : Int) : Int := if s = 1 then w.1 (p + 1) else w.1 p
def awX (w : AW) (p s b : Int) : AW :=
  (upf (upf w.1 p (w.1 (p + 1))) (p + 1) (w.1 p),
   upf (upf w.2.1 (xOv w p s) (w.2.1 (xOv w p s) + 2)) (xUn w p s) (w.2.1 (xUn w p s) + 1),
   w.2.2 ++ [(p, s, xOv w p s, xUn w p s, b)])
def awL (w : AW) (c g b : Int) : AW :=
  if c = 99 then awX w (2 * g + 1) 1 b else if c = 67 then awX w (2 * g + 1) 2 b
  else if c = 116 then awX (awX w (2 * g) 2 b) (2 * g + 2) 2 b else awX (awX w (2 * g) 1 b) (2 * g + 2) 1 b
/-- the first n letters of a word -/
def awN (w : AW) (f : Int → Int) (g b : Int) : Nat → AW
  | 0 => w
  | n + 1 => awL (awN w f g b n) (f n) g b
/-- a stitch uses 1 of each thread at its gap -/
def awU (w : AW) (g : Int) : Nat → AW
  | 0 => w
  | n + 1 => ((awU w g n).1, upf (awU w g n).2.1 ((awU w g n).1 (2 * g + n)) ((awU w g n).2.1 ((awU w g n).1 (2 * g + n)) + 1), (awU w g n).2.2)
/-- stitch b, of kind k, at gap g; N: pairs, work, held, words .. in one row of numbers -/
def awS (N : Int → Int) (w : AW) (k g b : Int) : AW := awN (awU w g 4) (fun i => N (87 + 9 * k + i)) g b (N (86 + 9 * k)).toNat
def awWf (w : AW) : Prop := (∀ i, 0 ≤ i → i < 16 → 0 ≤ w.1 i ∧ w.1 i < 16) ∧ (∀ i j, 0 ≤ i → i < 16 → 0 ≤ j → j < 16 → w.1 i = w.1 j → i = j)
theorem aw0_wf : awWf aw0 := ⟨fun i h1 h2 => ⟨h1, h2⟩, fun i j _ _ _ _ h => h⟩
theorem awX_wf {w : AW} {p s b : Int} (hp : 0 ≤ p) (hp2 : p < 15) (h : awWf w) : awWf (awX w p s b) := by
  obtain ⟨h1, h2⟩ := h
  have a1 := h1 p hp (by omega)
  have a2 := h1 (p + 1) (by omega) (by omega)
  refine ⟨fun i hi hi2 => ?_, fun i j hi hi2 hj hj2 he => ?_⟩
  · show 0 ≤ upf (upf w.1 p (w.1 (p + 1))) (p + 1) (w.1 p) i ∧ upf (upf w.1 p (w.1 (p + 1))) (p + 1) (w.1 p) i < 16
    unfold upf
    split
    · exact a1
    · split
      · exact a2
      · exact h1 i hi hi2
  · have sw : ∀ k, upf (upf w.1 p (w.1 (p + 1))) (p + 1) (w.1 p) k = w.1 (if k = p + 1 then p else if k = p then p + 1 else k) := by
      intro k
      unfold upf
      by_cases c1 : k = p + 1
      · rw [if_pos c1, if_pos c1]
      · rw [if_neg c1, if_neg c1]
        by_cases c2 : k = p
        · rw [if_pos c2, if_pos c2]
        · rw [if_neg c2, if_neg c2]
    change upf (upf w.1 p (w.1 (p + 1))) (p + 1) (w.1 p) i = upf (upf w.1 p (w.1 (p + 1))) (p + 1) (w.1 p) j at he
    rw [sw, sw] at he
    have := h2 _ _ (by split <;> omega) (by split <;> omega) (by split <;> omega) (by split <;> omega) he
    revert this
    split <;> split <;> omega
theorem awL_wf {w : AW} {c g b : Int} (hg : 0 ≤ g) (hg2 : g < 7) (h : awWf w) : awWf (awL w c g b) := by
  unfold awL
  split
  · exact awX_wf (by omega) (by omega) h
  · split
    · exact awX_wf (by omega) (by omega) h
    · split
      · exact awX_wf (by omega) (by omega) (awX_wf (by omega) (by omega) h)
      · exact awX_wf (by omega) (by omega) (awX_wf (by omega) (by omega) h)
theorem awN_wf {w : AW} {f : Int → Int} {g b : Int} (hg : 0 ≤ g) (hg2 : g < 7) (h : awWf w) (n : Nat) : awWf (awN w f g b n) := by
  induction n with
  | zero => exact h
  | succ n ih => exact awL_wf hg hg2 ih
theorem awU_at (w : AW) (g : Int) (n : Nat) : (awU w g n).1 = w.1 := by
  induction n with
  | zero => rfl
  | succ n ih => exact ih
theorem awU_rec (w : AW) (g : Int) (n : Nat) : (awU w g n).2.2 = w.2.2 := by
  induction n with
  | zero => rfl
  | succ n ih => exact ih
theorem awU_wf {w : AW} {g : Int} (h : awWf w) (n : Nat) : awWf (awU w g n) := by
  unfold awWf
  rw [awU_at]
  exact h
theorem awS_wf {N : Int → Int} {w : AW} {k g b : Int} (hg : 0 ≤ g) (hg2 : g < 7) (h : awWf w) : awWf (awS N w k g b) := awN_wf hg hg2 (awU_wf h 4) _
theorem awX_len (w : AW) (p s b : Int) : (awX w p s b).2.2.length = w.2.2.length + 1 := by simp [awX]
theorem awL_len (w : AW) (c g b : Int) : (awL w c g b).2.2.length ≤ w.2.2.length + 2 := by
  unfold awL
  split
  · rw [awX_len]; omega
  · split
    · rw [awX_len]; omega
    · split
      · rw [awX_len, awX_len]; omega
      · rw [awX_len, awX_len]; omega
theorem awN_len (w : AW) (f : Int → Int) (g b : Int) (n : Nat) : (awN w f g b n).2.2.length ≤ w.2.2.length + 2 * n := by
  induction n with
  | zero => exact Nat.le_refl _
  | succ n ih =>
    have := awL_len (awN w f g b n) (f n) g b
    show (awL (awN w f g b n) (f n) g b).2.2.length ≤ _
    omega
-- THE REFERENCE's weave
def frm (K : List Nat) (J : List Int) (τ τ' : St) : Prop := (∀ k, k ≠ 0 → k ∉ K → τ' k = τ k) ∧ (∀ j, j ∉ J → τ' 0 j = τ 0 j)
theorem frm.rf {K : List Nat} {J : List Int} {τ : St} : frm K J τ τ := ⟨fun _ _ _ => rfl, fun _ _ => rfl⟩
theorem frm.tr {K : List Nat} {J : List Int} {a b c : St} (h1 : frm K J a b) (h2 : frm K J b c) : frm K J a c := ⟨fun k h h' => (h2.1 k h h').trans (h1.1 k h h'), fun j h => (h2.2 j h).trans (h1.2 j h)⟩
theorem frm.mono {K K' : List Nat} {J J' : List Int} {a b : St} (h : frm K J a b) (hK : ∀ k ∈ K, k ∈ K') (hJ : ∀ j ∈ J, j ∈ J') : frm K' J' a b := ⟨fun k h1 h2 => h.1 k h1 (fun z => h2 (hK k z)), fun j h1 => h.2 j (fun z => h1 (hJ j z))⟩
theorem frm.s0 {K : List Nat} {J : List Int} {τ : St} {j v : Int} (h : j ∈ J) : frm K J τ (ss τ 0 j v) := ⟨fun k h1 _ => ss_row _ h1 _ _, fun j' h' => ss_ne _ _ (fun z => h' (by rw [z]; exact h)) _⟩
theorem frm.sk {K : List Nat} {J : List Int} {τ : St} {k : Nat} {i v : Int} (h0 : k ≠ 0) (h : k ∈ K) : frm K J τ (ss τ k i v) := ⟨fun k' h1 h2 => ss_row _ (fun z => h2 (by rw [z]; exact h)) _ _, fun j' h' => by rw [ss_row _ (Ne.symm h0)]⟩
abbrev mwK : List Nat := [11, 12, 13, 14, 15, 16, 17]
abbrev mwJ : List Int := [15]
def MW (τ : St) (w : AW) : Prop :=
  (∀ i, 0 ≤ i → i < 16 → τ 11 i = w.1 i) ∧ (∀ t, 0 ≤ t → t < 16 → τ 12 t = w.2.1 t) ∧ τ 0 15 = w.2.2.length ∧
  ∀ (k : Nat) (r : CR), w.2.2[k]? = some r → τ 13 k = r.1 ∧ τ 14 k = r.2.1 ∧ τ 15 k = r.2.2.1 ∧ τ 16 k = r.2.2.2.1 ∧ τ 17 k = r.2.2.2.2
theorem MW.fr {τ τ' : St} {w : AW} (h : MW τ w) (K : List Nat) (J : List Int) (hf : frm K J τ τ') (hK : ∀ k ∈ mwK, k ∉ K) (hJ : (15 : Int) ∉ J) : MW τ' w := by
  have e : ∀ k ∈ mwK, τ' k = τ k := fun k hk => hf.1 k (by intro z; subst z; revert hk; decide) (hK k hk)
  obtain ⟨h1, h2, h3, h4⟩ := h
  refine ⟨fun i a b => by rw [e 11 (by decide)]; exact h1 i a b, fun i a b => by rw [e 12 (by decide)]; exact h2 i a b, by rw [hf.2 15 hJ]; exact h3, fun k r hr => ?_⟩
  rw [e 13 (by decide), e 14 (by decide), e 15 (by decide), e 16 (by decide), e 17 (by decide)]
  exact h4 k r hr
theorem Mbegins_ok {τ : St} {Q : St → Prop} (h : ∀ τ', MW τ' aw0 → frm mwK mwJ τ τ' → Q τ') : V_M_begins τ Q := by
  unfold V_M_begins
  intro τ1 e1
  refine wl1 (fun i u => 0 ≤ i ∧ i ≤ 16 ∧ (∀ j, 0 ≤ j → j < i → u 11 j = j ∧ u 12 j = 0) ∧ u 0 15 = 0 ∧ frm mwK mwJ τ u) (fun i _ => (16 - i).toNat) ⟨by omega, by omega, fun j a b => by omega, by rw [e1, ss_at], by rw [e1]; exact frm.s0 (by decide)⟩ ?_
  intro bk i u hI hb
  obtain ⟨h1, h2, h3, h4, h5⟩ := hI
  rw [i32_id (x := i) (by omega) (by omega)]
  refine ⟨fun hc => ?_, fun hc => ⟨⟨by omega, hc⟩, fun u1 f1 => ⟨⟨by omega, hc⟩, fun u2 f2 => ?_⟩⟩⟩
  · refine h u ⟨fun j a b => (h3 j a (by omega)).1, fun j a b => (h3 j a (by omega)).2, by rw [h4]; rfl, fun k r hr => by simp [aw0] at hr⟩ h5
  · refine hb _ _ ⟨by omega, by omega, fun j a b => ?_, ?_, ?_⟩ (by omega)
    · rw [f2, f1]
      by_cases hj : j = i
      · subst hj
        simp [ss]
      · have := h3 j a (by omega)
        simp [ss, hj, this]
    · rw [f2, f1]
      simp [ss, h4]
    · rw [f2, f1]
      exact (h5.tr (frm.sk (by decide) (by decide))).tr (frm.sk (by decide) (by decide))
theorem Mcross_ok {τ : St} {w : AW} {p s b : Int} {Q : St → Prop} (hM : MW τ w) (hwf : awWf w) (hp : 0 ≤ p) (hp2 : p < 15) (hs : s = 1 ∨ s = 2) (hlen : w.2.2.length < 800) (h : ∀ τ', MW τ' (awX w p s b) → frm mwK mwJ τ τ' → Q τ') : V_M_cross τ p s b Q := by
  obtain ⟨m1, m2, m3, m4⟩ := hM
  obtain ⟨n, hn⟩ : ∃ n : Int, n = τ 0 15 := ⟨_, rfl⟩
  have hn0 : 0 ≤ n := by rw [hn, m3]; omega
  have hn1 : n < 800 := by rw [hn, m3]; omega
  have e1 : i32 p = p := i32_id (by omega) (by omega)
  have e2 : i32 (p + 1) = p + 1 := i32_id (by omega) (by omega)
  have e3 : i32 n = n := i32_id (by omega) (by omega)
  have b1 := hwf.1 p hp (by omega)
  have b2 := hwf.1 (p + 1) (by omega) (by omega)
  have l1 := m1 p hp (by omega)
  have l2 := m1 (p + 1) (by omega) (by omega)
  have hne : w.1 p ≠ w.1 (p + 1) := fun z => by have := hwf.2 p (p + 1) (by omega) (by omega) (by omega) (by omega) z; omega
  have f1 : i32 (w.1 p) = w.1 p := i32_id (by omega) (by omega)
  have f2 : i32 (w.1 (p + 1)) = w.1 (p + 1) := i32_id (by omega) (by omega)
  have fin : ∀ u : St, u = ss (ss (ss (ss (ss (ss (ss (ss (ss (ss τ 11 p (w.1 (p + 1))) 11 (p + 1) (w.1 p)) 13 n p) 14 n s) 15 n (xOv w p s)) 16 n (xUn w p s)) 17 n b) 12 (xOv w p s) (τ 12 (xOv w p s) + 2)) 12 (xUn w p s) (τ 12 (xUn w p s) + 1)) 0 15 (n + 1) → Q u := by
    intro u hu
    refine h u ⟨fun i a c => ?_, fun t a c => ?_, ?_, fun k r hr => ?_⟩ ?_
    · rw [hu]
      simp only [ss, awX, upf]
      simp
      by_cases c1 : i = p + 1
      · simp [c1]
      · by_cases c2 : i = p
        · simp [c2]
        · simp [c1, c2]
          exact m1 i a c
    · rw [hu]
      have hx : 0 ≤ xOv w p s ∧ xOv w p s < 16 := by unfold xOv; split <;> assumption
      have hy : 0 ≤ xUn w p s ∧ xUn w p s < 16 := by unfold xUn; split <;> assumption
      simp only [ss, awX, upf]
      simp
      by_cases c1 : t = xUn w p s
      · simp [c1]
        exact m2 _ hy.1 hy.2
      · by_cases c2 : t = xOv w p s
        · simp [c2]
          rw [← m2 _ hx.1 hx.2]
          split
          · rename_i z
            exact absurd (c2.trans z) c1
          · rfl
        · simp [c1, c2]
          exact m2 t a c
    · rw [hu]
      simp [ss, awX]
      rw [hn, m3]
    · have hk : k < w.2.2.length + 1 := by
        have := (List.getElem?_eq_some_iff.mp hr).1
        rw [awX_len] at this
        exact this
      have hnl : n = w.2.2.length := by rw [hn, m3]
      by_cases c1 : k = w.2.2.length
      · have hr2 : r = (p, s, xOv w p s, xUn w p s, b) := by
          have : (awX w p s b).2.2[k]? = some (p, s, xOv w p s, xUn w p s, b) := by
            show (w.2.2 ++ [(p, s, xOv w p s, xUn w p s, b)])[k]? = _
            rw [c1, List.getElem?_append_right (Nat.le_refl _)]
            simp
          rw [this] at hr
          exact (Option.some.inj hr).symm
        have hkn : (k : Int) = n := by rw [hnl, c1]
        rw [hu, hr2, hkn]
        simp [ss]
      · have hr3 : w.2.2[k]? = some r := by
          have : (awX w p s b).2.2[k]? = w.2.2[k]? := by
            show (w.2.2 ++ _)[k]? = _
            rw [List.getElem?_append_left (by omega)]
          rw [← this]; exact hr
        have hkn : ¬ (k : Int) = n := by rw [hnl]; omega
        have := m4 k r hr3
        rw [hu]
        simp [ss, hkn, this]
    · rw [hu]
      refine frm.tr ?_ (frm.s0 (by decide))
      repeat (refine frm.tr ?_ (frm.sk (by decide) (by decide)))
      exact frm.rf
  have hs2 : i32 s = s := by rcases hs with rfl | rfl <;> first | exact k32_1 | exact k32_2
  unfold V_M_cross
  rw [e1, e2, hs2, l1, l2]
  refine ⟨⟨hp, by omega⟩, fun lf hlf => ⟨⟨by omega, by omega⟩, fun rg hrg => ⟨⟨hp, by omega⟩, fun t3 h3 => ⟨⟨by omega, by omega⟩, fun t4 h4 => ?_⟩⟩⟩⟩
  have c4 : t4 0 15 = n := by rw [h4, h3, hn]; simp [ss]
  rw [c4, e3]
  refine ⟨⟨hn0, hn1⟩, fun t5 h5 => ?_⟩
  have c5 : t5 0 15 = n := by rw [h5]; simp [ss, c4]
  rw [c5, e3]
  refine ⟨⟨hn0, hn1⟩, fun t6 h6 => ?_⟩
  have c6 : t6 0 15 = n := by rw [h6]; simp [ss, c5]
  have tail : ∀ (t9 : St) (y : Int), y = xUn w p s → t9 = ss t6 15 n (xOv w p s) → J_M_cross_97 b Q t9 y t9 := by
    intro t9 y hy h9
    have c9 : t9 0 15 = n := by rw [h9]; simp [ss, c6]
    have hx : 0 ≤ xOv w p s ∧ xOv w p s < 16 := by unfold xOv; split <;> assumption
    have hyy : 0 ≤ xUn w p s ∧ xUn w p s < 16 := by unfold xUn; split <;> assumption
    have hxi : i32 (xOv w p s) = xOv w p s := i32_id (by omega) (by omega)
    have hyi : i32 (xUn w p s) = xUn w p s := i32_id (by omega) (by omega)
    have hxy : xUn w p s ≠ xOv w p s := by
      unfold xOv xUn
      split
      · exact fun z => hne z.symm
      · exact hne
    unfold J_M_cross_97
    rw [c9, e3]
    refine ⟨⟨hn0, hn1⟩, fun t12 h12 => ?_⟩
    have c12 : t12 0 15 = n := by rw [h12]; simp [ss, c9]
    rw [c12, e3]
    refine ⟨⟨hn0, hn1⟩, fun t13 h13 => ?_⟩
    have c13 : t13 0 15 = n := by rw [h13]; simp [ss, c12]
    have o13 : t13 15 n = xOv w p s := by rw [h13, h12, h9]; simp [ss]
    rw [c13, e3, o13, hxi]
    refine ⟨⟨hn0, hn1⟩, hx, hx, fun t14 h14 => ?_⟩
    have c14 : t14 0 15 = n := by rw [h14]; simp [ss, c13]
    have o14 : t14 16 n = xUn w p s := by rw [h14, h13, h12, hy]; simp [ss]
    rw [c14, e3, o14, hyi]
    refine ⟨⟨hn0, hn1⟩, hyy, hyy, fun t15 h15 t16 h16 => fin t16 ?_⟩
    have u13 : t13 12 (xOv w p s) = τ 12 (xOv w p s) := by rw [h13, h12, h9, h6, h5, h4, h3]; simp [ss]
    have u14 : t14 12 (xUn w p s) = τ 12 (xUn w p s) := by
      rw [h14]
      simp only [ss, hxy, if_true, if_false]
      rw [h13, h12, h9, h6, h5, h4, h3]; simp [ss]
    have c15 : t15 0 15 = n := by rw [h15]; simp [ss, c14]
    rw [h16, c15, h15, u14, h14, u13, h13, h12, hy, h9, h6, h5, h4, h3, hlf, hrg]
  have mid : ∀ y : Int, y = xOv w p s → J_M_cross_76 s b Q lf rg t6 y t6 := by
    intro y hy
    unfold J_M_cross_76
    rw [c6, e3, hs2]
    refine ⟨⟨hn0, hn1⟩, fun t9 h9 => ⟨fun hc => ?_, fun hc => ?_⟩⟩
    · exact tail t9 lf (by rw [hlf]; unfold xUn; rw [if_neg hc]) (by rw [h9, hy])
    · exact tail t9 rg (by rw [hrg]; unfold xUn; rw [if_pos hc]) (by rw [h9, hy])
  exact ⟨fun hc => mid rg (by rw [hrg]; unfold xOv; rw [if_neg hc]), fun hc => mid lf (by rw [hlf]; unfold xOv; rw [if_pos hc])⟩

def wordOk (N : Int → Int) (k : Int) : Prop := 1 ≤ N (86 + 9 * k) ∧ N (86 + 9 * k) ≤ 8 ∧ ∀ i, 0 ≤ i → i < N (86 + 9 * k) → N (87 + 9 * k + i) = 99 ∨ N (87 + 9 * k + i) = 67 ∨ N (87 + 9 * k + i) = 116 ∨ N (87 + 9 * k + i) = 84
theorem Mletter_ok {τ : St} {w : AW} {c g b i : Int} {bk : Int → St → Prop} (hM : MW τ w) (hwf : awWf w) (hg : 0 ≤ g) (hg2 : g < 7) (hlen : w.2.2.length + 2 ≤ 800) (hc : c = 99 ∨ c = 67 ∨ c = 116 ∨ c = 84) (h : ∀ τ', MW τ' (awL w c g b) → frm mwK mwJ τ τ' → bk (i + 1) τ') :
    ((i32 c = 99 → J_M_spells_43 g b i bk c τ) ∧ (¬ i32 c = 99 → ((¬ i32 c = 67 → ((¬ i32 c = 116 → J_M_spells_84 g b i bk c 1 τ) ∧ (i32 c = 116 → J_M_spells_84 g b i bk c 2 τ))) ∧ (i32 c = 67 → J_M_spells_43 g b i bk c τ)))) := by
  have hci : i32 c = c := i32_id (by omega) (by omega)
  rw [hci]
  have two : ∀ s : Int, s = 1 ∨ s = 2 → awL w c g b = awX (awX w (2 * g) s b) (2 * g + 2) s b → (c = 116 → s = 2) → (¬ c = 116 → s = 1) → J_M_spells_84 g b i bk c s τ := by
    intro s hs e h1 h2
    unfold J_M_spells_84
    rw [hci]
    refine Mcross_ok hM hwf (by omega) (by omega) hs (by omega) (fun τ1 m1 f1 => ⟨fun hn => ?_, fun hy => ?_⟩)
    · have := h2 hn
      subst this
      exact Mcross_ok m1 (awX_wf (by omega) (by omega) hwf) (by omega) (by omega) (Or.inl rfl) (by rw [awX_len]; omega) (fun τ2 m2 f2 => h τ2 (by rw [e]; exact m2) (f1.tr f2))
    · have := h1 hy
      subst this
      exact Mcross_ok m1 (awX_wf (by omega) (by omega) hwf) (by omega) (by omega) (Or.inr rfl) (by rw [awX_len]; omega) (fun τ2 m2 f2 => h τ2 (by rw [e]; exact m2) (f1.tr f2))
  have one : (c = 99 ∨ c = 67) → J_M_spells_43 g b i bk c τ := by
    intro hcc
    unfold J_M_spells_43
    rw [hci]
    refine ⟨fun hn => ?_, fun hy => ?_⟩
    · have e : awL w c g b = awX w (2 * g + 1) 2 b := by unfold awL; rw [if_neg hn, if_pos (by omega)]
      exact Mcross_ok hM hwf (by omega) (by omega) (Or.inr rfl) (by omega) (fun τ1 m1 f1 => h τ1 (by rw [e]; exact m1) f1)
    · have e : awL w c g b = awX w (2 * g + 1) 1 b := by unfold awL; rw [if_pos hy]
      exact Mcross_ok hM hwf (by omega) (by omega) (Or.inl rfl) (by omega) (fun τ1 m1 f1 => h τ1 (by rw [e]; exact m1) f1)
  refine ⟨fun h1 => one (Or.inl h1), fun h1 => ⟨fun h2 => ⟨fun h3 => ?_, fun h3 => ?_⟩, fun h2 => one (Or.inr h2)⟩⟩
  · exact two 1 (Or.inl rfl) (by unfold awL; rw [if_neg h1, if_neg h2, if_neg h3]) (fun z => absurd z h3) (fun _ => rfl)
  · exact two 2 (Or.inr rfl) (by unfold awL; rw [if_neg h1, if_neg h2, if_pos h3]) (fun _ => rfl) (fun z => absurd h3 z)
theorem Mspells_ok {τ : St} {w : AW} {k g b : Int} {Q : St → Prop} (hM : MW τ w) (hwf : awWf w) (hk : 0 ≤ k) (hk2 : k < 6) (hg : 0 ≤ g) (hg2 : g < 7) (hw : wordOk (τ 1) k) (hlen : w.2.2.length + 16 ≤ 800) (h : ∀ τ', MW τ' (awN w (fun i => τ 1 (87 + 9 * k + i)) g b (τ 1 (86 + 9 * k)).toNat) → frm mwK mwJ τ τ' → Q τ') : V_M_spells τ k g b Q := by
  obtain ⟨w1, w2, w3⟩ := hw
  obtain ⟨N, hN⟩ : ∃ N, N = τ 1 := ⟨_, rfl⟩
  rw [← hN] at w1 w2 w3 h
  unfold V_M_spells
  refine wl1 (fun i u => 0 ≤ i ∧ i ≤ N (86 + 9 * k) ∧ MW u (awN w (fun i => N (87 + 9 * k + i)) g b i.toNat) ∧ frm mwK mwJ τ u) (fun i _ => (N (86 + 9 * k) - i).toNat) ⟨by omega, by omega, hM, frm.rf⟩ ?_
  intro bk i u hI hb
  obtain ⟨h1, h2, h3, h4⟩ := hI
  have hu : u 1 = N := by rw [hN]; exact h4.1 1 (by decide) (by decide)
  have e1 : i32 (86 + 9 * k) = 86 + 9 * k := i32_id (by omega) (by omega)
  have e2 : i32 i = i := i32_id (by omega) (by omega)
  have e3 : i32 (N (86 + 9 * k)) = N (86 + 9 * k) := i32_id (by omega) (by omega)
  rw [e1, e2, hu, e3]
  refine ⟨⟨by omega, by omega⟩, fun hc => ?_, fun hc => ?_⟩
  · have : i = N (86 + 9 * k) := by omega
    subst this
    exact h u h3 h4
  · unfold V_M_letterOf
    have e4 : i32 (86 + 9 * k + 1 + i) = 87 + 9 * k + i := by rw [i32_id (by omega) (by omega)]; omega
    rw [e4, hu]
    refine ⟨⟨by omega, by omega⟩, ?_⟩
    obtain ⟨n, hn⟩ : ∃ n : Nat, i = n := ⟨i.toNat, by omega⟩
    subst hn
    have e5 : ((n : Int) + 1).toNat = n + 1 := by omega
    have e6 : ((n : Int)).toNat = n := by omega
    rw [e6] at h3
    have hl := awN_len w (fun i => N (87 + 9 * k + i)) g b n
    refine Mletter_ok h3 (awN_wf hg hg2 hwf n) hg hg2 (by omega) (w3 n h1 hc) (fun u1 m1 f1 => ?_)
    refine hb _ _ ⟨by omega, by omega, ?_, h4.tr f1⟩ (by omega)
    rw [e5]
    exact m1
theorem Mworks_ok {τ : St} {w : AW} {s : Int} {Q : St → Prop} (hM : MW τ w) (hwf : awWf w) (hs : 0 ≤ s) (hs2 : s < 48) (hk : 0 ≤ τ 7 s) (hk2 : τ 7 s < 6) (hg : 0 ≤ τ 6 s) (hg2 : τ 6 s < 7) (hw : wordOk (τ 1) (τ 7 s)) (hlen : w.2.2.length + 16 ≤ 800) (h : ∀ τ', MW τ' (awS (τ 1) w (τ 7 s) (τ 6 s) s) → frm mwK mwJ τ τ' → Q τ') : V_M_works τ s 1 Q := by
  obtain ⟨N, hN⟩ : ∃ N, N = τ 1 := ⟨_, rfl⟩
  obtain ⟨g, hgg⟩ : ∃ g, g = τ 6 s := ⟨_, rfl⟩
  obtain ⟨k, hkk⟩ : ∃ k, k = τ 7 s := ⟨_, rfl⟩
  rw [← hgg] at hg hg2 h
  rw [← hkk] at hk hk2 h hw
  rw [← hN] at hw h
  have es : i32 s = s := i32_id (by omega) (by omega)
  unfold V_M_works
  rw [es]
  refine ⟨⟨hs, hs2⟩, fun x hx => ?_⟩
  rw [← hgg] at hx
  subst hx
  have wfU : ∀ n, awWf (awU w g n) := fun n => awU_wf hwf n
  have fin : ∀ u, MW u (awU w g 4) → frm mwK mwJ τ u → J_M_works_48 s Q u := by
    intro u m f
    unfold J_M_works_48
    rw [es]
    have u7 : u 7 = τ 7 := f.1 7 (by decide) (by decide)
    have u6 : u 6 = τ 6 := f.1 6 (by decide) (by decide)
    have u1 : u 1 = N := by rw [hN]; exact f.1 1 (by decide) (by decide)
    rw [u7, u6, ← hgg, ← hkk]
    refine ⟨⟨hs, hs2⟩, ⟨hs, hs2⟩, Mspells_ok m (wfU 4) hk hk2 hg hg2 (by rw [u1]; exact hw) (by rw [awU_rec]; exact hlen) (fun u2 m2 f2 => h u2 ?_ (f.tr f2))⟩
    rw [u1] at m2
    exact m2
  refine wl1 (fun x u => ∃ n : Nat, n ≤ 4 ∧ x = 2 * g + n ∧ MW u (awU w g n) ∧ frm mwK mwJ τ u) (fun x _ => (2 * g + 4 - x).toNat) ⟨0, by omega, by omega, hM, frm.rf⟩ ?_
  intro bk x u hI hb
  obtain ⟨n, h1, h2, h3, h4⟩ := hI
  have u6 : u 6 s = g := by rw [hgg, h4.1 6 (by decide) (by decide)]
  have e2 : i32 x = x := i32_id (by omega) (by omega)
  have e3 : i32 (2 * g + 4) = 2 * g + 4 := i32_id (by omega) (by omega)
  rw [u6, e2, e3, k32_1]
  refine ⟨⟨hs, hs2⟩, fun hc => ?_, fun hc => ⟨fun z => absurd z (by decide), fun _ => ?_⟩⟩
  · have : n = 4 := by omega
    subst this
    exact fin u h3 h4
  · have hx1 : (awU w g n).1 x = u 11 x := (h3.1 x (by omega) (by omega)).symm
    have hr := (wfU n).1 x (by omega) (by omega)
    rw [hx1] at hr
    have e4 : i32 (u 11 x) = u 11 x := i32_id (by omega) (by omega)
    rw [e4]
    refine ⟨⟨by omega, by omega⟩, hr, hr, fun u1 hu1 => ?_⟩
    refine hb _ _ ⟨n + 1, by omega, by omega, ?_, h4.tr (by rw [hu1]; exact frm.sk (by decide) (by decide))⟩ (by omega)
    have hx2 : (2 * g + (n : Int)) = x := h2.symm
    rw [hu1]
    obtain ⟨q1, q2, q3, q4⟩ := h3
    refine ⟨fun i a b => ?_, fun t a b => ?_, ?_, fun j r hr => ?_⟩
    · rw [ss_row _ (by decide)]; exact q1 i a b
    · show _ = upf (awU w g n).2.1 ((awU w g n).1 (2 * g + n)) ((awU w g n).2.1 ((awU w g n).1 (2 * g + n)) + 1) t
      rw [hx2, hx1]
      unfold upf
      rw [ss_self]
      by_cases ct : t = u 11 x
      · rw [if_pos ct, ← q2 _ hr.1 hr.2]
        simp [ct]
      · rw [if_neg ct]
        simp only [ct, if_false]
        exact q2 t a b
    · rw [ss_row _ (by decide)]; exact q3
    · rw [ss_row _ (by decide), ss_row _ (by decide), ss_row _ (by decide), ss_row _ (by decide), ss_row _ (by decide)]
      exact q4 j r hr
/-- stitches wk 0, wk 1, .. worked from the beginning on -/
def awQ (N gp kd : Int → Int) (wk : Nat → Int) : Nat → AW
  | 0 => aw0
  | n + 1 => awS N (awQ N gp kd wk n) (kd (wk n)) (gp (wk n)) (wk n)
theorem awS_len {N : Int → Int} {w : AW} {k g b : Int} (h : N (86 + 9 * k) ≤ 8) : (awS N w k g b).2.2.length ≤ w.2.2.length + 16 := by
  unfold awS
  have := awN_len (awU w g 4) (fun i => N (87 + 9 * k + i)) g b (N (86 + 9 * k)).toNat
  rw [awU_rec] at this
  omega
/-- what the stitches are: kinds and gaps within, and words that are words -/
def stOk (N gp kd : Int → Int) (many : Int) : Prop := 0 ≤ many ∧ many ≤ 48 ∧ (∀ s, 0 ≤ s → s < many → 0 ≤ kd s ∧ kd s < 6 ∧ 0 ≤ gp s ∧ gp s < 7) ∧ ∀ k, 0 ≤ k → k < 6 → wordOk N k
theorem awQ_wf {N gp kd : Int → Int} {wk : Nat → Int} {many : Int} (h : stOk N gp kd many) (n : Nat) (hw : ∀ i, i < n → 0 ≤ wk i ∧ wk i < many) : awWf (awQ N gp kd wk n) := by
  induction n with
  | zero => exact aw0_wf
  | succ n ih =>
    have h1 := hw n (by omega)
    have h2 := h.2.2.1 _ h1.1 h1.2
    exact awS_wf h2.2.2.1 h2.2.2.2 (ih (fun i hi => hw i (by omega)))
theorem awQ_len {N gp kd : Int → Int} {wk : Nat → Int} {many : Int} (h : stOk N gp kd many) (n : Nat) (hw : ∀ i, i < n → 0 ≤ wk i ∧ wk i < many) : (awQ N gp kd wk n).2.2.length ≤ 16 * n := by
  induction n with
  | zero => exact Nat.le_refl _
  | succ n ih =>
    have h1 := hw n (by omega)
    have h2 := h.2.2.1 _ h1.1 h1.2
    have h3 := (h.2.2.2 _ h2.1 h2.2.1).2.1
    have h4 := ih (fun i hi => hw i (by omega))
    have h5 := awS_len (N := N) (w := awQ N gp kd wk n) (k := kd (wk n)) (g := gp (wk n)) (b := wk n) h3
    show (awS N (awQ N gp kd wk n) (kd (wk n)) (gp (wk n)) (wk n)).2.2.length ≤ _
    omega
theorem MtheWork_ok {τ : St} {Q : St → Prop} (hst : stOk (τ 1) (τ 6) (τ 7) (τ 0 5)) (hn : 0 ≤ τ 1 1) (hn2 : τ 1 1 ≤ 48) (hw : ∀ i, 0 ≤ i → i < τ 1 1 → 0 ≤ τ 1 (156 + i) ∧ τ 1 (156 + i) < τ 0 5)
    (h : ∀ τ', MW τ' (awQ (τ 1) (τ 6) (τ 7) (fun i => τ 1 (156 + i)) (τ 1 1).toNat) → frm mwK mwJ τ τ' → Q τ') : V_M_theWork τ Q := by
  unfold V_M_theWork
  refine Mbegins_ok (fun t1 m1 f1 => ?_)
  refine wl1 (fun i u => 0 ≤ i ∧ i ≤ τ 1 1 ∧ MW u (awQ (τ 1) (τ 6) (τ 7) (fun i => τ 1 (156 + i)) i.toNat) ∧ frm mwK mwJ τ u) (fun i _ => (τ 1 1 - i).toNat) ⟨by omega, by omega, m1, f1⟩ ?_
  intro bk i u hI hb
  obtain ⟨h1, h2, h3, h4⟩ := hI
  have u1 : u 1 = τ 1 := h4.1 1 (by decide) (by decide)
  have u6 : u 6 = τ 6 := h4.1 6 (by decide) (by decide)
  have u7 : u 7 = τ 7 := h4.1 7 (by decide) (by decide)
  have e1 : i32 i = i := i32_id (by omega) (by omega)
  have e2 : i32 (156 + i) = 156 + i := i32_id (by omega) (by omega)
  have e3 : i32 (τ 1 1) = τ 1 1 := i32_id (by omega) (by omega)
  rw [u1, e1, e2, e3]
  refine ⟨fun hc => ?_, fun hc => ⟨⟨by omega, by omega⟩, ?_⟩⟩
  · have : i = τ 1 1 := by omega
    subst this
    exact h u h3 h4
  · obtain ⟨n, hn⟩ : ∃ n : Nat, i = n := ⟨i.toNat, by omega⟩
    subst hn
    have e5 : ((n : Int) + 1).toNat = n + 1 := by omega
    have e6 : ((n : Int)).toNat = n := by omega
    rw [e6] at h3
    have hwn := hw n h1 hc
    have hs := hst.2.2.1 _ hwn.1 hwn.2
    have hall : ∀ j : Nat, j < n → 0 ≤ τ 1 (156 + j) ∧ τ 1 (156 + j) < τ 0 5 := fun j hj => hw j (by omega) (by omega)
    have hlen := awQ_len (wk := fun i : Nat => τ 1 (156 + i)) hst n hall
    have hm := hst.2.1
    refine Mworks_ok h3 (awQ_wf hst n hall) hwn.1 (by omega) (by rw [u7]; exact hs.1) (by rw [u7]; exact hs.2.1) (by rw [u6]; exact hs.2.2.1) (by rw [u6]; exact hs.2.2.2) (by rw [u1, u7]; exact hst.2.2.2 _ hs.1 hs.2.1) (by omega) (fun v m f => ?_)
    refine hb _ _ ⟨by omega, by omega, ?_, h4.tr f⟩ (by omega)
    rw [e5]
    rw [u1, u6, u7] at m
    exact m
theorem Mfirst_ok {τ : St} {c : Int} {Q : St → Prop} (hst : stOk (τ 1) (τ 6) (τ 7) (τ 0 5)) (hn : 0 ≤ c) (hn2 : c ≤ τ 0 5)
    (h : ∀ τ', MW τ' (awQ (τ 1) (τ 6) (τ 7) (fun i => i) c.toNat) → frm mwK mwJ τ τ' → Q τ') : V_M_first τ c Q := by
  unfold V_M_first
  refine Mbegins_ok (fun t1 m1 f1 => ?_)
  have hm := hst.2.1
  refine wl1 (fun i u => 0 ≤ i ∧ i ≤ c ∧ MW u (awQ (τ 1) (τ 6) (τ 7) (fun i => i) i.toNat) ∧ frm mwK mwJ τ u) (fun i _ => (c - i).toNat) ⟨by omega, by omega, m1, f1⟩ ?_
  intro bk i u hI hb
  obtain ⟨h1, h2, h3, h4⟩ := hI
  have u1 : u 1 = τ 1 := h4.1 1 (by decide) (by decide)
  have u6 : u 6 = τ 6 := h4.1 6 (by decide) (by decide)
  have u7 : u 7 = τ 7 := h4.1 7 (by decide) (by decide)
  have e1 : i32 i = i := i32_id (by omega) (by omega)
  have e3 : i32 c = c := i32_id (by omega) (by omega)
  rw [e1, e3]
  refine ⟨fun hc => ?_, fun hc => ?_⟩
  · have : i = c := by omega
    subst this
    exact h u h3 h4
  · obtain ⟨n, hn⟩ : ∃ n : Nat, i = n := ⟨i.toNat, by omega⟩
    subst hn
    have e5 : ((n : Int) + 1).toNat = n + 1 := by omega
    have e6 : ((n : Int)).toNat = n := by omega
    rw [e6] at h3
    have hs := hst.2.2.1 n h1 (by omega)
    have hall : ∀ j : Nat, j < n → 0 ≤ (j : Int) ∧ (j : Int) < τ 0 5 := fun j hj => ⟨by omega, by omega⟩
    have hlen := awQ_len (wk := fun i : Nat => (i : Int)) hst n hall
    refine Mworks_ok h3 (awQ_wf hst n hall) h1 (by omega) (by rw [u7]; exact hs.1) (by rw [u7]; exact hs.2.1) (by rw [u6]; exact hs.2.2.1) (by rw [u6]; exact hs.2.2.2) (by rw [u1, u7]; exact hst.2.2.2 _ hs.1 hs.2.1) (by omega) (fun v m f => ?_)
    refine hb _ _ ⟨by omega, by omega, ?_, h4.tr f⟩ (by omega)
    rw [e5]
    rw [u1, u6, u7] at m
    exact m
