-- PURE: crossings as a heap: (place, sign, layer), the latest first
abbrev HI : Type := Int × Int × Int
def hT : List HI → Int → Int
  | [], _ => 0
  | x :: r, p => if x.1 = p then x.2.2 + 1 else hT r p
def hM (R : List HI) (p : Int) : Int := max (max (hT R (p - 1)) (hT R p)) (hT R (p + 1))
def sg : List HI → Int → Int → Int
  | [], _, _ => 0
  | x :: r, l, p => if x.1 = p ∧ x.2.2 = l then x.2.1 else sg r l p
def hadj (a b : Int) : Prop := -1 ≤ a - b ∧ a - b ≤ 1
def hWf : List HI → Prop
  | [] => True
  | x :: r => x.2.2 = hM r x.1 ∧ (x.2.1 = 1 ∨ x.2.1 = 2) ∧ 0 ≤ x.1 ∧ x.1 < 15 ∧ hWf r
def hrm : List HI → Int → Int → Option (List HI)
  | [], _, _ => none
  | x :: r, p, s => if -1 ≤ x.1 - p ∧ x.1 - p ≤ 1 then (if x.1 = p ∧ ¬ x.2.1 = s then some r else none) else (hrm r p s).map (x :: ·)
def hadd (R : List HI) (p s : Int) : List HI := match hrm R p s with
  | some r => r
  | none => (p, s, hM R p) :: R
theorem hT_nn {R : List HI} (h : hWf R) (p : Int) : 0 ≤ hT R p := by
  induction R generalizing p with
  | nil => exact Int.le_refl _
  | cons x r ih =>
    obtain ⟨h1, h2, h3, h4, h5⟩ := h
    unfold hT
    split
    · rw [h1]
      unfold hM
      have := ih h5 x.1
      omega
    · exact ih h5 p
theorem hM_nn {R : List HI} (h : hWf R) (p : Int) : 0 ≤ hM R p := by
  have := hT_nn h p
  unfold hM
  omega
theorem hT_out {R : List HI} (h : hWf R) {p : Int} (hp : p < 0 ∨ 15 ≤ p) : hT R p = 0 := by
  induction R with
  | nil => rfl
  | cons x r ih =>
    obtain ⟨h1, h2, h3, h4, h5⟩ := h
    unfold hT
    rw [if_neg (by omega)]
    exact ih h5
theorem sg_rng {R : List HI} (h : hWf R) {l p : Int} (hs : ¬ sg R l p = 0) : 0 ≤ l ∧ l < hT R p ∧ 0 ≤ p ∧ p < 15 ∧ (sg R l p = 1 ∨ sg R l p = 2) := by
  induction R with
  | nil => exact absurd rfl hs
  | cons x r ih =>
    obtain ⟨h1, h2, h3, h4, h5⟩ := h
    unfold sg at hs ⊢
    unfold hT
    have hm := hM_nn h5 x.1
    by_cases c : x.1 = p ∧ x.2.2 = l
    · rw [if_pos c] at hs ⊢
      rw [if_pos c.1]
      exact ⟨by omega, by omega, by omega, by omega, h2⟩
    · rw [if_neg c] at hs ⊢
      obtain ⟨q1, q2, q3, q4, q5⟩ := ih h5 hs
      by_cases c2 : x.1 = p
      · rw [if_pos c2]
        have : hT r p ≤ hM r x.1 := by rw [c2]; unfold hM; omega
        exact ⟨q1, by omega, q3, q4, q5⟩
      · rw [if_neg c2]
        exact ⟨q1, q2, q3, q4, q5⟩
theorem sg_top {R : List HI} (h : hWf R) {p : Int} (hp : 0 < hT R p) : sg R (hT R p - 1) p = 1 ∨ sg R (hT R p - 1) p = 2 := by
  induction R with
  | nil => exact absurd hp (by unfold hT; omega)
  | cons x r ih =>
    obtain ⟨h1, h2, h3, h4, h5⟩ := h
    unfold hT at hp ⊢
    unfold sg
    by_cases c : x.1 = p
    · rw [if_pos c, if_pos ⟨c, by omega⟩]
      exact h2
    · rw [if_neg c] at hp ⊢
      rw [if_neg (fun z => c z.1)]
      exact ih h5 hp
theorem sg_ge {R : List HI} (h : hWf R) {l p : Int} (hl : hT R p ≤ l) : sg R l p = 0 := by
  by_cases c : sg R l p = 0
  · exact c
  · have := (sg_rng h c).2.1
    omega
theorem sg_01 {R : List HI} (h : hWf R) (l p : Int) : sg R l p = 0 ∨ sg R l p = 1 ∨ sg R l p = 2 := by
  by_cases c : sg R l p = 0
  · exact Or.inl c
  · exact Or.inr (sg_rng h c).2.2.2.2
/-- one is taken away: it lay uppermost, the rest stays -/
theorem hrm_some {R R' : List HI} (h : hWf R) {p s : Int} (e : hrm R p s = some R') :
    max (hT R (p - 1)) (hT R (p + 1)) < hT R p ∧ ¬ sg R (hT R p - 1) p = s ∧ hWf R' ∧ R'.length + 1 = R.length ∧ (∀ q, q ≠ p → hT R' q = hT R q) ∧ (∀ l q, sg R' l q = if q = p ∧ l = hT R p - 1 then 0 else sg R l q) ∧ hT R' p < hT R p := by
  induction R generalizing R' with
  | nil => cases e
  | cons x r ih =>
    have hx := h
    obtain ⟨h1, h2, h3, h4, h5⟩ := h
    unfold hrm at e
    by_cases c : -1 ≤ x.1 - p ∧ x.1 - p ≤ 1
    · rw [if_pos c] at e
      by_cases c2 : x.1 = p ∧ ¬ x.2.1 = s
      · rw [if_pos c2] at e
        cases e
        obtain ⟨c3, c4⟩ := c2
        have t0 : hT (x :: r) p = x.2.2 + 1 := by unfold hT; rw [if_pos c3]
        have t1 : ∀ q, q ≠ p → hT (x :: r) q = hT r q := by
          intro q hq
          show (if x.1 = q then _ else _) = _
          rw [if_neg (by omega)]
        have hm : hM r p = max (max (hT r (p - 1)) (hT r p)) (hT r (p + 1)) := rfl
        rw [c3] at h1
        refine ⟨?_, ?_, h5, rfl, fun q hq => (t1 q hq).symm, fun l q => ?_, ?_⟩
        · rw [t0, t1 _ (by omega), t1 _ (by omega)]
          omega
        · rw [t0]
          show ¬ (if x.1 = p ∧ x.2.2 = x.2.2 + 1 - 1 then _ else _) = s
          rw [if_pos ⟨c3, by omega⟩]
          exact c4
        · rw [t0]
          show _ = if q = p ∧ l = x.2.2 + 1 - 1 then 0 else (if x.1 = q ∧ x.2.2 = l then _ else _)
          by_cases c5 : q = p ∧ l = x.2.2
          · rw [if_pos ⟨c5.1, by omega⟩]
            rw [c5.1, c5.2]
            exact sg_ge h5 (by omega)
          · rw [if_neg (by omega), if_neg (by omega)]
        · rw [t0]
          omega
      · rw [if_neg c2] at e
        cases e
    · rw [if_neg c] at e
      cases e2 : hrm r p s with
      | none => rw [e2] at e; cases e
      | some r' =>
        rw [e2] at e
        cases e
        obtain ⟨q1, q2, q3, q4, q5, q6, q7⟩ := ih h5 e2
        have far : ∀ q, (q = p ∨ q = p - 1 ∨ q = p + 1) → hT (x :: r) q = hT r q := by
          intro q hq
          show (if x.1 = q then _ else _) = _
          rw [if_neg (by omega)]
        have t0 := far p (Or.inl rfl)
        refine ⟨?_, ?_, ?_, by simp only [List.length_cons]; omega, fun q hq => ?_, fun l q => ?_, ?_⟩
        · rw [t0, far _ (Or.inr (Or.inl rfl)), far _ (Or.inr (Or.inr rfl))]
          exact q1
        · rw [t0]
          show ¬ (if x.1 = p ∧ _ then _ else _) = s
          rw [if_neg (by omega)]
          exact q2
        · refine ⟨?_, h2, h3, h4, q3⟩
          rw [h1]
          unfold hM
          rw [q5 _ (by omega), q5 _ (by omega), q5 _ (by omega)]
        · show (if x.1 = q then _ else _) = (if x.1 = q then _ else _)
          by_cases c5 : x.1 = q
          · rw [if_pos c5, if_pos c5]
          · rw [if_neg c5, if_neg c5]
            exact q5 q hq
        · rw [t0]
          show (if x.1 = q ∧ x.2.2 = l then _ else _) = if q = p ∧ l = hT r p - 1 then 0 else (if x.1 = q ∧ x.2.2 = l then _ else _)
          by_cases c5 : x.1 = q ∧ x.2.2 = l
          · rw [if_pos c5, if_neg (by omega), if_pos c5]
          · rw [if_neg c5, if_neg c5]
            exact q6 l q
        · rw [t0]
          show (if x.1 = p then _ else _) < _
          rw [if_neg (by omega)]
          exact q7
theorem hrm_none {R : List HI} (h : hWf R) {p s : Int} (e : hrm R p s = none) : ¬ (max (hT R (p - 1)) (hT R (p + 1)) < hT R p ∧ ¬ sg R (hT R p - 1) p = s) := by
  induction R with
  | nil => unfold hT; omega
  | cons x r ih =>
    obtain ⟨h1, h2, h3, h4, h5⟩ := h
    unfold hrm at e
    have hm : hM r x.1 = max (max (hT r (x.1 - 1)) (hT r x.1)) (hT r (x.1 + 1)) := rfl
    by_cases c : -1 ≤ x.1 - p ∧ x.1 - p ≤ 1
    · rw [if_pos c] at e
      by_cases c2 : x.1 = p
      · have c3 : x.2.1 = s := by
          by_cases c4 : x.2.1 = s
          · exact c4
          · rw [if_pos ⟨c2, c4⟩] at e
            cases e
        have t0 : hT (x :: r) p = x.2.2 + 1 := by unfold hT; rw [if_pos c2]
        intro hh
        apply hh.2
        rw [t0]
        show (if x.1 = p ∧ x.2.2 = x.2.2 + 1 - 1 then _ else _) = s
        rw [if_pos ⟨c2, by omega⟩]
        exact c3
      · have tp : hT (x :: r) p = hT r p := by
          show (if x.1 = p then _ else _) = _
          rw [if_neg c2]
        have tx : hT (x :: r) x.1 = x.2.2 + 1 := by unfold hT; rw [if_pos rfl]
        intro hh
        have hh1 := hh.1
        rw [tp] at hh1
        have : x.1 = p - 1 ∨ x.1 = p + 1 := by omega
        rcases this with e1 | e1
        · rw [← e1, tx] at hh1
          have : hT r p = hT r (x.1 + 1) := by rw [e1]; congr 1; omega
          omega
        · rw [← e1, tx] at hh1
          have : hT r p = hT r (x.1 - 1) := by rw [e1]; congr 1; omega
          omega
    · rw [if_neg c] at e
      have e2 : hrm r p s = none := by
        cases e3 : hrm r p s with
        | none => rfl
        | some r' => rw [e3] at e; cases e
      have far : ∀ q, (q = p ∨ q = p - 1 ∨ q = p + 1) → hT (x :: r) q = hT r q := by
        intro q hq
        show (if x.1 = q then _ else _) = _
        rw [if_neg (by omega)]
      rw [far p (Or.inl rfl), far _ (Or.inr (Or.inl rfl)), far _ (Or.inr (Or.inr rfl))]
      have : sg (x :: r) (hT r p - 1) p = sg r (hT r p - 1) p := by
        show (if x.1 = p ∧ _ then _ else _) = _
        rw [if_neg (by omega)]
      rw [this]
      exact ih h5 e2
theorem hadd_wf {R : List HI} (h : hWf R) {p s : Int} (hp : 0 ≤ p) (hp2 : p < 15) (hs : s = 1 ∨ s = 2) : hWf (hadd R p s) := by
  unfold hadd
  cases e : hrm R p s with
  | none => exact ⟨rfl, hs, hp, hp2, h⟩
  | some R' => exact (hrm_some h e).2.2.1
theorem hadd_le {R : List HI} (h : hWf R) {p s B : Int} (hB : hM R p ≤ B) : hT (hadd R p s) p ≤ B + 1 ∧ ∀ q, q ≠ p → hT (hadd R p s) q = hT R q := by
  unfold hadd
  cases e : hrm R p s with
  | none =>
    refine ⟨?_, fun q hq => ?_⟩
    · show (if p = p then hM R p + 1 else _) ≤ _
      rw [if_pos rfl]
      omega
    · show (if p = q then _ else _) = _
      rw [if_neg (Ne.symm hq)]
  | some R' =>
    obtain ⟨q1, q2, q3, q4, q5, q6, q7⟩ := hrm_some h e
    refine ⟨?_, q5⟩
    have : hT R p ≤ hM R p := by unfold hM; omega
    show hT R' p ≤ _
    omega
-- the model's way: what is left in the order in which it came, the latest that touches is sought
theorem hrm_split {pre post : List HI} {x : HI} {p s : Int} (h1 : ∀ y ∈ pre, ¬ (-1 ≤ y.1 - p ∧ y.1 - p ≤ 1)) (h2 : -1 ≤ x.1 - p ∧ x.1 - p ≤ 1) : hrm (pre ++ x :: post) p s = if x.1 = p ∧ ¬ x.2.1 = s then some (pre ++ post) else none := by
  induction pre with
  | nil =>
    show (if _ then _ else _) = _
    rw [if_pos h2]
    rfl
  | cons y r ih =>
    show (if -1 ≤ y.1 - p ∧ y.1 - p ≤ 1 then _ else (hrm (r ++ x :: post) p s).map (y :: ·)) = _
    rw [if_neg (h1 y List.mem_cons_self), ih (fun z hz => h1 z (List.mem_cons_of_mem _ hz))]
    split <;> rfl
theorem hrm_far {R : List HI} {p s : Int} (h1 : ∀ y ∈ R, ¬ (-1 ≤ y.1 - p ∧ y.1 - p ≤ 1)) : hrm R p s = none := by
  induction R with
  | nil => rfl
  | cons y r ih =>
    show (if -1 ≤ y.1 - p ∧ y.1 - p ≤ 1 then _ else (hrm r p s).map (y :: ·)) = _
    rw [if_neg (h1 y List.mem_cons_self), ih (fun z hz => h1 z (List.mem_cons_of_mem _ hz))]
    rfl
/-- the greatest layer of those that touch p, and 1 -/
theorem hM_ge {R : List HI} (h : hWf R) {p : Int} {y : HI} (hy : y ∈ R) (ha : -1 ≤ y.1 - p ∧ y.1 - p ≤ 1) : y.2.2 + 1 ≤ hM R p := by
  have key : ∀ R : List HI, hWf R → y ∈ R → y.2.2 + 1 ≤ hT R y.1 := by
    intro R h hy
    induction R with
    | nil => cases hy
    | cons x r ih =>
      obtain ⟨h1, h2, h3, h4, h5⟩ := h
      rcases List.mem_cons.mp hy with e | e
      · subst e
        unfold hT
        rw [if_pos rfl]
        exact Int.le_refl _
      · have := ih h5 e
        unfold hT
        split
        · rename_i c
          have : hT r y.1 ≤ hM r x.1 := by rw [c]; unfold hM; omega
          omega
        · exact this
  have h7 := key R h hy
  unfold hM
  have h8 : y.1 = p ∨ y.1 = p - 1 ∨ y.1 = p + 1 := by omega
  rcases h8 with e | e | e
  · rw [e] at h7
    omega
  · rw [e] at h7
    omega
  · rw [e] at h7
    omega
theorem hM_at {R : List HI} {p : Int} (h : hWf R) (hp : 0 < hM R p) : ∃ y ∈ R, (-1 ≤ y.1 - p ∧ y.1 - p ≤ 1) ∧ y.2.2 + 1 = hM R p := by
  have key : ∀ (R : List HI) (q : Int), 0 < hT R q → ∃ y ∈ R, y.1 = q ∧ y.2.2 + 1 = hT R q := by
    intro R q hq
    induction R with
    | nil => exact absurd hq (by unfold hT; omega)
    | cons x r ih =>
      unfold hT at hq ⊢
      by_cases c : x.1 = q
      · rw [if_pos c]
        exact ⟨x, List.mem_cons_self, c, rfl⟩
      · rw [if_neg c] at hq ⊢
        obtain ⟨y, hy, e1, e2⟩ := ih hq
        exact ⟨y, List.mem_cons_of_mem _ hy, e1, e2⟩
  unfold hM at hp ⊢
  by_cases c1 : max (max (hT R (p - 1)) (hT R p)) (hT R (p + 1)) = hT R p
  · obtain ⟨y, hy, e1, e2⟩ := key R p (by omega)
    exact ⟨y, hy, by omega, by omega⟩
  · by_cases c2 : max (max (hT R (p - 1)) (hT R p)) (hT R (p + 1)) = hT R (p - 1)
    · obtain ⟨y, hy, e1, e2⟩ := key R (p - 1) (by omega)
      exact ⟨y, hy, by omega, by omega⟩
    · obtain ⟨y, hy, e1, e2⟩ := key R (p + 1) (by omega)
      exact ⟨y, hy, by omega, by omega⟩
/-- a member is what the signs tell of its place and layer -/
theorem sg_mem {R : List HI} (h : hWf R) {y : HI} (hy : y ∈ R) : sg R y.2.2 y.1 = y.2.1 := by
  induction R with
  | nil => cases hy
  | cons x r ih =>
    obtain ⟨h1, h2, h3, h4, h5⟩ := h
    show (if x.1 = y.1 ∧ x.2.2 = y.2.2 then x.2.1 else _) = _
    rcases List.mem_cons.mp hy with e | e
    · subst e
      rw [if_pos ⟨rfl, rfl⟩]
    · by_cases c : x.1 = y.1 ∧ x.2.2 = y.2.2
      · exfalso
        have h6 := hM_ge h5 e (p := x.1) (by omega)
        omega
      · rw [if_neg c]
        exact ih h5 e
theorem sg_ex {R : List HI} {l p : Int} (hs : ¬ sg R l p = 0) : ∃ y ∈ R, y.1 = p ∧ y.2.2 = l ∧ y.2.1 = sg R l p := by
  induction R with
  | nil => exact absurd rfl hs
  | cons x r ih =>
    unfold sg at hs ⊢
    by_cases c : x.1 = p ∧ x.2.2 = l
    · rw [if_pos c]
      exact ⟨x, List.mem_cons_self, c.1, c.2, rfl⟩
    · rw [if_neg c] at hs ⊢
      obtain ⟨y, hy, e⟩ := ih hs
      exact ⟨y, List.mem_cons_of_mem _ hy, e⟩
/-- what is left of crossings -/
def hR : List CR → List HI
  | [] => []
  | r => r.foldl (fun R r => hadd R r.1 r.2.1) []
def crOk (rs : List CR) : Prop := ∀ r ∈ rs, 0 ≤ r.1 ∧ r.1 < 15 ∧ (r.2.1 = 1 ∨ r.2.1 = 2)
theorem hR_snoc (rs : List CR) (r : CR) : hR (rs ++ [r]) = hadd (hR rs) r.1 r.2.1 := by
  have e : ∀ l : List CR, hR l = l.foldl (fun R r => hadd R r.1 r.2.1) [] := by
    intro l
    cases l <;> rfl
  rw [e, e, List.foldl_append]
  rfl
theorem hR_wf {rs : List CR} (h : crOk rs) : hWf (hR rs) := by
  have key : ∀ (l : List CR) (R : List HI), crOk l → hWf R → hWf (l.foldl (fun R r => hadd R r.1 r.2.1) R) := by
    intro l
    induction l with
    | nil => intro R _ h; exact h
    | cons r l ih =>
      intro R h1 h2
      have h3 := h1 r List.mem_cons_self
      exact ih _ (fun x hx => h1 x (List.mem_cons_of_mem _ hx)) (hadd_wf h2 h3.1 h3.2.1 h3.2.2)
  have e : hR rs = rs.foldl (fun R r => hadd R r.1 r.2.1) [] := by cases rs <;> rfl
  rw [e]
  exact key rs [] h trivial
theorem crOk_snoc {rs : List CR} {r : CR} (h : crOk rs) (h2 : 0 ≤ r.1 ∧ r.1 < 15 ∧ (r.2.1 = 1 ∨ r.2.1 = 2)) : crOk (rs ++ [r]) := by
  intro x hx
  rcases List.mem_append.mp hx with e | e
  · exact h x e
  · have := List.mem_singleton.mp e
    subst this
    exact h2
theorem hadd_len (R : List HI) (h : hWf R) (p s : Int) : (hadd R p s).length ≤ R.length + 1 := by
  unfold hadd
  cases e : hrm R p s with
  | none => exact Nat.le_refl _
  | some R' =>
    have := (hrm_some h e).2.2.2.1
    show R'.length ≤ _
    omega
