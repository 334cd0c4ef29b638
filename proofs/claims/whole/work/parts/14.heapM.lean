-- counting what is left
def cntv (f : Int → Int) (v : Int) : Nat → Int
  | 0 => 0
  | n + 1 => cntv f v n + (if f n = v then 1 else 0)
theorem cntv_congr {f g : Int → Int} {v : Int} {n : Nat} (h : ∀ i : Nat, i < n → f i = g i) : cntv f v n = cntv g v n := by
  induction n with
  | zero => rfl
  | succ n ih =>
    unfold cntv
    rw [ih (fun i hi => h i (by omega)), h n (by omega)]
theorem cntv_upd {f g : Int → Int} {v s : Int} {k n : Nat} (hk : k < n) (h0 : ¬ f k = v) (hg : ∀ i : Nat, g i = if i = k then s else f i) : cntv g v n = cntv f v n + (if s = v then 1 else 0) := by
  induction n with
  | zero => omega
  | succ n ih =>
    unfold cntv
    by_cases c : k = n
    · subst c
      have : cntv g v k = cntv f v k := cntv_congr (fun i hi => by rw [hg i, if_neg (by omega)])
      rw [this, hg k, if_pos rfl, if_neg h0]
      omega
    · rw [ih (by omega), hg n, if_neg (show ¬ n = k from fun z => c z.symm)]
      omega
theorem cntv_nn (f : Int → Int) (v : Int) (n : Nat) : 0 ≤ cntv f v n ∧ cntv f v n ≤ n := by
  induction n with
  | zero => exact ⟨Int.le_refl _, Int.le_refl _⟩
  | succ n ih =>
    unfold cntv
    split <;> omega
def sgF (R : List HI) (i : Int) : Int := sg R (i / 15) (i % 15)
def hC (R : List HI) (v : Int) : Int := (R.countP (fun x => x.2.1 = v) : Nat)
theorem sgF_cnt {R : List HI} (h : hWf R) (h96 : ∀ p, hT R p ≤ 96) {v : Int} (hv : ¬ v = 0) : cntv (sgF R) v 1440 = hC R v := by
  have key : ∀ R : List HI, hWf R → (∀ x ∈ R, x.2.2 < 96) → cntv (sgF R) v 1440 = hC R v := by
    intro R h hl
    induction R with
    | nil =>
      have : ∀ n, cntv (sgF []) v n = 0 := by
        intro n
        induction n with
        | zero => rfl
        | succ n ih =>
          unfold cntv
          rw [ih]
          show 0 + (if (0 : Int) = v then 1 else 0) = (0 : Int)
          rw [if_neg (fun z => hv z.symm)]
          rfl
      rw [this]
      rfl
    | cons x r ih =>
      obtain ⟨h1, h2, h3, h4, h5⟩ := h
      have hxl := hl x List.mem_cons_self
      have hm := hM_nn h5 x.1
      obtain ⟨k, hk⟩ : ∃ k : Nat, (k : Int) = x.2.2 * 15 + x.1 := ⟨(x.2.2 * 15 + x.1).toNat, by omega⟩
      have e0 : sgF r k = 0 := by
        unfold sgF
        have e1 : (k : Int) / 15 = x.2.2 := by omega
        have e2 : (k : Int) % 15 = x.1 := by omega
        rw [e1, e2]
        exact sg_ge h5 (by rw [h1]; unfold hM; omega)
      rw [cntv_upd (f := sgF r) (k := k) (s := x.2.1) (by omega) (by rw [e0]; exact fun z => hv z.symm) (fun i => ?_), ih h5 (fun y hy => hl y (List.mem_cons_of_mem _ hy))]
      · unfold hC
        rw [List.countP_cons]
        by_cases c : x.2.1 = v
        · simp [c]
        · simp [c]
      · show (if x.1 = (i : Int) % 15 ∧ x.2.2 = (i : Int) / 15 then x.2.1 else sg r ((i : Int) / 15) ((i : Int) % 15)) = if i = k then x.2.1 else sg r ((i : Int) / 15) ((i : Int) % 15)
        by_cases c : i = k
        · rw [if_pos c, if_pos (by omega)]
        · rw [if_neg c, if_neg (by omega)]
  refine key R h (fun x hx => ?_)
  have h1 := hM_ge h hx (p := x.1) (by omega)
  have h2 := h96 (x.1 - 1)
  have h3 := h96 x.1
  have h4 := h96 (x.1 + 1)
  unfold hM at h1
  omega
theorem hC_all {R : List HI} (h : hWf R) : hC R 1 + hC R 2 = R.length := by
  induction R with
  | nil => rfl
  | cons x r ih =>
    obtain ⟨h1, h2, h3, h4, h5⟩ := h
    have := ih h5
    unfold hC at this ⊢
    rw [List.countP_cons, List.countP_cons, List.length_cons]
    rcases h2 with e | e <;> rw [e] <;> simp <;> omega
theorem HeapCount_ok {σ : St} {h : Nat} {R : List HI} {Q : Int → St → Prop} (hH : HP σ h R) (hW : hWf R) (k : Q (hC R 1) σ) : V_Heap_countSign h σ 1 Q := by
  obtain ⟨g1, g2, g3, g4⟩ := hH
  have eF : ∀ i : Nat, i < 1440 → σ (h + 1) i = sgF R i := by
    intro i hi
    have := g2 ((i : Int) / 15) ((i : Int) % 15) (by omega) (by omega) (by omega) (by omega)
    rw [show (i : Int) / 15 * 15 + (i : Int) % 15 = i by omega] at this
    exact this
  unfold V_Heap_countSign
  refine wl2 (fun i y u => u = σ ∧ ∃ n : Nat, n ≤ 1440 ∧ i = n ∧ y = cntv (sgF R) 1 n) (fun i _ _ => (1440 - i).toNat) ⟨rfl, 0, by omega, rfl, rfl⟩ ?_
  intro bk i y u hI hbk
  obtain ⟨rfl, n, hn, rfl, rfl⟩ := hI
  rw [i32_id (x := (n : Int)) (by omega) (by omega), k32_1]
  refine ⟨fun hc => ?_, fun hc => ⟨⟨by omega, by omega⟩, ?_⟩⟩
  · have : n = 1440 := by omega
    subst this
    rw [sgF_cnt hW g4 (by decide)]
    exact k
  · rw [eF n (by omega)]
    have h01 := sg_01 hW ((n : Int) / 15) ((n : Int) % 15)
    have e5 : i32 (sgF R n) = sgF R n := by unfold sgF; exact i32_id (by omega) (by omega)
    rw [e5]
    refine ⟨fun hs => hbk _ _ _ ⟨rfl, n + 1, by omega, by omega, ?_⟩ (by omega), fun hs => hbk _ _ _ ⟨rfl, n + 1, by omega, by omega, ?_⟩ (by omega)⟩
    · show _ = cntv (sgF R) 1 n + (if sgF R n = 1 then 1 else 0)
      rw [if_neg hs]
      omega
    · show _ = cntv (sgF R) 1 n + (if sgF R n = 1 then 1 else 0)
      rw [if_pos hs]
-- THE REFERENCE: what is left, in the order in which it came
abbrev mlK : List Nat := [18, 19]
abbrev mlJ : List Int := [21]
def ML (τ : St) (C : List HI) : Prop := τ 0 21 = C.length ∧ ∀ (k : Nat) (x : HI), C[k]? = some x → τ 18 k = x.1 ∧ τ 19 k = x.2.1
theorem Mdrop_ok {τ : St} {C : List HI} {k : Nat} {Q : St → Prop} (hM : ML τ C) (hk : k < C.length) (hlen : C.length ≤ 800) (h : ∀ τ', ML τ' (C.eraseIdx k) → frm mlK mlJ τ τ' → Q τ') : V_M_drop τ k Q := by
  obtain ⟨m1, m2⟩ := hM
  unfold V_M_drop
  intro t1 h1
  refine wl1 (fun i u => (k : Int) ≤ i ∧ i ≤ C.length - 1 ∧ u 0 21 = C.length - 1 ∧ u 18 = (fun j : Int => if (k : Int) ≤ j ∧ j < i then τ 18 (j + 1) else τ 18 j) ∧ u 19 = (fun j : Int => if (k : Int) ≤ j ∧ j < i then τ 19 (j + 1) else τ 19 j) ∧ frm mlK mlJ τ u) (fun i _ => (C.length - i).toNat) ⟨by omega, by omega, ?_, ?_, ?_, ?_⟩ ?_
  · rw [h1, ss_at, m1]
  · rw [h1, ss_row _ (by decide)]
    funext j
    rw [if_neg (by omega)]
  · rw [h1, ss_row _ (by decide)]
    funext j
    rw [if_neg (by omega)]
  · rw [h1]; exact frm.s0 (by decide)
  · intro bk i u hI hb
    obtain ⟨i1, i2, i3, i4, i5, i6⟩ := hI
    rw [i3, i32_id (x := i) (by omega) (by omega), i32_id (x := i + 1) (by omega) (by omega), i32_id (x := (C.length : Int) - 1) (by omega) (by omega)]
    refine ⟨fun hc => ?_, fun hc => ⟨⟨by omega, by omega⟩, ⟨by omega, by omega⟩, fun u1 e1 => ⟨⟨by omega, by omega⟩, ⟨by omega, by omega⟩, fun u2 e2 => ?_⟩⟩⟩
    · have hi : i = C.length - 1 := by omega
      subst hi
      refine h u ⟨?_, fun j x hx => ?_⟩ i6
      · rw [i3, List.length_eraseIdx, if_pos hk]
        omega
      · have hj : j < C.length - 1 := by
          have := (List.getElem?_eq_some_iff.mp hx).1
          rw [List.length_eraseIdx, if_pos hk] at this
          exact this
        rw [List.getElem?_eraseIdx] at hx
        rw [i4, i5]
        by_cases c : j < k
        · rw [if_pos c] at hx
          simp only
          rw [if_neg (by omega), if_neg (by omega)]
          exact m2 j x hx
        · rw [if_neg c] at hx
          simp only
          rw [if_pos (by omega), if_pos (by omega)]
          have := m2 (j + 1) x hx
          simpa using this
    · refine hb _ _ ⟨by omega, by omega, ?_, ?_, ?_, ?_⟩ (by omega)
      · rw [e2, e1, ss_row _ (by decide), ss_row _ (by decide)]; exact i3
      · rw [e2, ss_row _ (by decide), e1, ss_self]
        funext j
        rw [i4]
        simp only
        by_cases c : j = i
        · rw [if_pos c, if_neg (by omega), if_pos (by omega), c]
        · rw [if_neg c]
          by_cases c2 : (k : Int) ≤ j ∧ j < i
          · rw [if_pos c2, if_pos (by omega)]
          · rw [if_neg c2, if_neg (by omega)]
      · rw [e2, ss_self, e1, ss_row _ (by decide)]
        funext j
        rw [i5]
        simp only
        by_cases c : j = i
        · rw [if_pos c, if_neg (by omega), if_pos (by omega), c]
        · rw [if_neg c]
          by_cases c2 : (k : Int) ≤ j ∧ j < i
          · rw [if_pos c2, if_pos (by omega)]
          · rw [if_neg c2, if_neg (by omega)]
      · rw [e2, e1]
        exact (i6.tr (frm.sk (by decide) (by decide))).tr (frm.sk (by decide) (by decide))
theorem Mcomes_ok {τ : St} {R : List HI} {p s : Int} {Q : St → Prop} (hM : ML τ R.reverse) (hW : hWf R) (hlen : R.length < 800) (hp : 0 ≤ p) (hp2 : p < 15) (hs : s = 1 ∨ s = 2) (h : ∀ τ', ML τ' (hadd R p s).reverse → frm mlK mlJ τ τ' → Q τ') : V_M_comes τ p s Q := by
  obtain ⟨C, hC⟩ : ∃ C, C = R.reverse := ⟨_, rfl⟩
  have hR : R = C.reverse := by rw [hC, List.reverse_reverse]
  have hCl : C.length = R.length := by rw [hC, List.length_reverse]
  rw [← hC] at hM
  obtain ⟨m1, m2⟩ := hM
  have hrng : ∀ (k : Nat) (x : HI), C[k]? = some x → 0 ≤ x.1 ∧ x.1 < 15 ∧ (x.2.1 = 1 ∨ x.2.1 = 2) := by
    intro k x hx
    have hm : x ∈ R := by rw [hR]; exact List.mem_reverse.mpr (List.mem_of_getElem? hx)
    have key : ∀ R : List HI, hWf R → x ∈ R → 0 ≤ x.1 ∧ x.1 < 15 ∧ (x.2.1 = 1 ∨ x.2.1 = 2) := by
      intro R h hx
      induction R with
      | nil => cases hx
      | cons y r ih =>
        obtain ⟨h1, h2, h3, h4, h5⟩ := h
        rcases List.mem_cons.mp hx with e | e
        · subst e; exact ⟨h3, h4, h2⟩
        · exact ih h5 e
    exact key R hW hm
  have append : hrm R p s = none → J_M_comes_71 p s Q τ := by
    intro e
    have ea : (hadd R p s).reverse = C ++ [(p, s, hM R p)] := by
      have : hadd R p s = (p, s, hM R p) :: R := by unfold hadd; rw [e]
      rw [this, List.reverse_cons, hC]
    unfold J_M_comes_71
    rw [m1, i32_id (x := (C.length : Int)) (by omega) (by omega)]
    refine ⟨⟨by omega, by omega⟩, fun t1 e1 => ?_⟩
    have c1 : t1 0 21 = C.length := by rw [e1, ss_row _ (by decide)]; exact m1
    rw [c1, i32_id (x := (C.length : Int)) (by omega) (by omega)]
    refine ⟨⟨by omega, by omega⟩, fun t2 e2 t3 e3 => h t3 ?_ ?_⟩
    · rw [ea]
      refine ⟨?_, fun k x hx => ?_⟩
      · rw [e3, ss_at, e2, ss_row _ (by decide), c1]
        simp
      · rw [e3, ss_row _ (by decide), ss_row _ (by decide), e2, ss_row _ (by decide), ss_self, e1, ss_self, ss_row _ (by decide)]
        by_cases c : k = C.length
        · rw [c, List.getElem?_append_right (Nat.le_refl _)] at hx
          simp at hx
          subst hx
          rw [c]
          simp
        · have hk : k < C.length := by
            have := (List.getElem?_eq_some_iff.mp hx).1
            simp at this
            omega
          rw [List.getElem?_append_left hk] at hx
          have := m2 k x hx
          have hne : ¬ (k : Int) = C.length := by omega
          simp only [hne, if_false]
          exact this
    · rw [e3, e2, e1]
      exact ((frm.rf.tr (frm.sk (by decide) (by decide))).tr (frm.sk (by decide) (by decide))).tr (frm.s0 (by decide))
  unfold V_M_comes
  intro x0 hx0
  rw [m1] at hx0
  refine wl1 (fun x u => u = τ ∧ -1 ≤ x ∧ x < C.length ∧ ∀ (j : Nat) (y : HI), x < j → C[j]? = some y → ¬ (-1 ≤ y.1 - p ∧ y.1 - p ≤ 1)) (fun x _ => (x + 1).toNat) ⟨rfl, by omega, by omega, fun j y hj hy => ?_⟩ ?_
  · have := (List.getElem?_eq_some_iff.mp hy).1
    omega
  · intro bk x u hI hb
    obtain ⟨rfl, i2, i3, i4⟩ := hI
    rw [i32_id (x := x) (by omega) (by omega), i32_id (x := p - 1) (by omega) (by omega), i32_id (x := p + 1) (by omega) (by omega)]
    have stop : (∀ (n : Nat) (y : HI), x = n → C[n]? = some y → -1 ≤ y.1 - p ∧ y.1 - p ≤ 1) → J_M_comes_41 p s Q x u := by
      intro hadj
      unfold J_M_comes_41
      rw [i32_id (x := x) (by omega) (by omega)]
      refine ⟨fun hc => append (hrm_far (fun y hy => ?_)), fun hc => ⟨⟨by omega, by omega⟩, ?_⟩⟩
      · rw [hR] at hy
        obtain ⟨j, hj⟩ := List.getElem?_of_mem (List.mem_reverse.mp hy)
        exact i4 j y (by omega) hj
      · obtain ⟨n, hn⟩ : ∃ n : Nat, x = n := ⟨x.toNat, by omega⟩
        subst hn
        have hnl : n < C.length := by omega
        obtain ⟨y, hy⟩ : ∃ y, C[n]? = some y := ⟨C[n]'hnl, List.getElem?_eq_getElem hnl⟩
        have hya := hadj n y rfl hy
        have hyr := hrng n y hy
        have hyg : C[n] = y := by
          have := List.getElem?_eq_getElem hnl
          rw [hy] at this
          exact (Option.some.inj this).symm
        have hsplit : R = (C.drop (n + 1)).reverse ++ y :: (C.take n).reverse := by
          rw [hR]
          have h1 : C = C.take n ++ (y :: C.drop (n + 1)) := by
            rw [← hyg, List.getElem_cons_drop, List.take_append_drop]
          conv => lhs; rw [h1]
          rw [List.reverse_append, List.reverse_cons, List.append_assoc]
          rfl
        have hfar : ∀ z ∈ (C.drop (n + 1)).reverse, ¬ (-1 ≤ z.1 - p ∧ z.1 - p ≤ 1) := by
          intro z hz
          obtain ⟨j, hj⟩ := List.getElem?_of_mem (List.mem_reverse.mp hz)
          rw [List.getElem?_drop] at hj
          exact i4 (n + 1 + j) z (by omega) hj
        have hr := hrm_split (post := (C.take n).reverse) (s := s) hfar hya
        rw [← hsplit] at hr
        obtain ⟨e18, e19⟩ := m2 n y hy
        rw [e18, e19, i32_id (x := y.1) (by omega) (by omega), i32_id (x := p) (by omega) (by omega), i32_id (x := y.2.1) (by omega) (by omega), i32_id (x := s) (by omega) (by omega)]
        refine ⟨fun h1 => append (by rw [hr, if_neg (fun z => h1 z.1)]), fun h1 => ⟨⟨by omega, by omega⟩, fun h2 => append (by rw [hr, if_neg (fun z => z.2 h2)]), fun h2 => ?_⟩⟩
        rw [if_pos ⟨h1, h2⟩] at hr
        refine Mdrop_ok ⟨m1, m2⟩ hnl (by omega) (fun τ' q1 q2 => h τ' ?_ q2)
        have : (hadd R p s).reverse = C.eraseIdx n := by
          have ea : hadd R p s = (C.drop (n + 1)).reverse ++ (C.take n).reverse := by unfold hadd; rw [hr]
          rw [ea, List.reverse_append, List.reverse_reverse, List.reverse_reverse, List.eraseIdx_eq_take_drop_succ]
        rw [this]
        exact q1
    refine ⟨fun hc => stop (fun n y hn => by omega), fun hc => ⟨⟨by omega, by omega⟩, ?_⟩⟩
    obtain ⟨n, hn⟩ : ∃ n : Nat, x = n := ⟨x.toNat, by omega⟩
    subst hn
    obtain ⟨y, hy⟩ : ∃ y, C[n]? = some y := ⟨C[n]'(by omega), List.getElem?_eq_getElem (by omega)⟩
    have hyr := hrng n y hy
    rw [(m2 n y hy).1, i32_id (x := y.1) (by omega) (by omega)]
    have next : ¬ (-1 ≤ y.1 - p ∧ y.1 - p ≤ 1) → bk ((n : Int) + (-1)) u := by
      intro hna
      refine hb _ _ ⟨rfl, by omega, by omega, fun j z hj hz => ?_⟩ (by omega)
      by_cases c : j = n
      · subst c
        rw [hy] at hz
        cases hz
        exact hna
      · exact i4 j z (by omega) hz
    refine ⟨fun h1 => next (by omega), fun h1 => ⟨⟨by omega, by omega⟩, fun h2 => stop (fun n' y' hn' hy' => ?_), fun h2 => next (by omega)⟩⟩
    have : n' = n := by omega
    subst this
    rw [hy] at hy'
    cases hy'
    omega
