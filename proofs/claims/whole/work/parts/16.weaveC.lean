-- what is told of each thread, out of the crossings
def cOv (rs : List CR) (t : Int) : Int := (rs.countP (fun r => r.2.2.1 = t) : Nat)
def cUn (rs : List CR) (t : Int) : Int := (rs.countP (fun r => r.2.2.2.1 = t) : Nat)
def cPs (rs : List CR) (a b : Int) : Int := (rs.countP (fun r => r.2.2.1 = a ∧ r.2.2.2.1 = b) : Nat)
/-- how many, on which side last, the first that was false -/
def fsS (t : Int) (x : Int × Int × Int) (r : CR) : Int × Int × Int :=
  if r.2.2.1 = t then (x.1 + 1, 1, if x.2.1 = 1 ∧ x.2.2 < 0 then x.1 else x.2.2)
  else if r.2.2.2.1 = t then (x.1 + 1, 2, if x.2.1 = 2 ∧ x.2.2 < 0 then x.1 else x.2.2) else x
def fsT (rs : List CR) (t : Int) : Int × Int × Int := rs.foldl (fsS t) (0, 0, -1)
theorem cOv_snoc (rs : List CR) (r : CR) (t : Int) : cOv (rs ++ [r]) t = cOv rs t + (if r.2.2.1 = t then 1 else 0) := by
  unfold cOv
  rw [List.countP_append, List.countP_cons, List.countP_nil]
  by_cases c : r.2.2.1 = t <;> simp [c]
theorem cUn_snoc (rs : List CR) (r : CR) (t : Int) : cUn (rs ++ [r]) t = cUn rs t + (if r.2.2.2.1 = t then 1 else 0) := by
  unfold cUn
  rw [List.countP_append, List.countP_cons, List.countP_nil]
  by_cases c : r.2.2.2.1 = t <;> simp [c]
theorem cPs_snoc (rs : List CR) (r : CR) (a b : Int) : cPs (rs ++ [r]) a b = cPs rs a b + (if r.2.2.1 = a ∧ r.2.2.2.1 = b then 1 else 0) := by
  unfold cPs
  rw [List.countP_append, List.countP_cons, List.countP_nil]
  by_cases c : r.2.2.1 = a ∧ r.2.2.2.1 = b
  · simp [c.1, c.2]
  · simp only [c, if_false]
    simp
theorem fsT_snoc (rs : List CR) (r : CR) (t : Int) : fsT (rs ++ [r]) t = fsS t (fsT rs t) r := by
  unfold fsT
  rw [List.foldl_append]
  rfl
def crD (rs : List CR) : Prop := ∀ r ∈ rs, ¬ r.2.2.1 = r.2.2.2.1 ∧ 0 ≤ r.2.2.1 ∧ r.2.2.1 < 16 ∧ 0 ≤ r.2.2.2.1 ∧ r.2.2.2.1 < 16
theorem list_snoc {α : Type} {P : List α → Prop} (h0 : P []) (h1 : ∀ l a, P l → P (l ++ [a])) : ∀ l, P l := by
  have key : ∀ m : List α, P m.reverse := by
    intro m
    induction m with
    | nil => exact h0
    | cons a m ih => rw [List.reverse_cons]; exact h1 _ _ ih
  intro l
  have := key l.reverse
  rwa [List.reverse_reverse] at this
theorem fsT_ok0 (t : Int) : ∀ rs : List CR, crD rs → (fsT rs t).1 = cOv rs t + cUn rs t ∧ ((fsT rs t).2.1 = 0 ∨ (fsT rs t).2.1 = 1 ∨ (fsT rs t).2.1 = 2) ∧ -1 ≤ (fsT rs t).2.2 ∧ (fsT rs t).2.2 ≤ rs.length ∧ 0 ≤ cOv rs t ∧ 0 ≤ cUn rs t ∧ cOv rs t + cUn rs t ≤ rs.length := by
  refine list_snoc ?_ ?_
  · intro _
    exact ⟨rfl, Or.inl rfl, by show (-1 : Int) ≤ -1; omega, by show (-1 : Int) ≤ 0; omega, Int.le_refl _, Int.le_refl _, Int.le_refl _⟩
  · intro l r ih h
    have h1 := ih (fun x hx => h x (List.mem_append_left _ hx))
    have h2 := h r (List.mem_append_right _ (List.mem_singleton.mpr rfl))
    obtain ⟨a1, a2, a3, a4, a5, a6, a7⟩ := h1
    rw [fsT_snoc, cOv_snoc, cUn_snoc, List.length_append]
    unfold fsS
    by_cases c1 : r.2.2.1 = t
    · have c2 : ¬ r.2.2.2.1 = t := fun z => h2.1 (c1.trans z.symm)
      rw [if_pos c1, if_pos c1, if_neg c2]
      refine ⟨by simp only; omega, Or.inr (Or.inl rfl), ?_, ?_, by omega, by omega, by simp only [List.length_singleton]; omega⟩
      · simp only; split <;> omega
      · simp only [List.length_singleton]; split <;> omega
    · rw [if_neg c1, if_neg c1]
      by_cases c2 : r.2.2.2.1 = t
      · rw [if_pos c2, if_pos c2]
        refine ⟨by simp only; omega, Or.inr (Or.inr rfl), ?_, ?_, by omega, by omega, by simp only [List.length_singleton]; omega⟩
        · simp only; split <;> omega
        · simp only [List.length_singleton]; split <;> omega
      · rw [if_neg c2, if_neg c2]
        exact ⟨by omega, a2, a3, by simp only [List.length_singleton]; omega, by omega, by omega, by simp only [List.length_singleton]; omega⟩
theorem fsT_ok {rs : List CR} (h : crD rs) (t : Int) : (fsT rs t).1 = cOv rs t + cUn rs t ∧ ((fsT rs t).2.1 = 0 ∨ (fsT rs t).2.1 = 1 ∨ (fsT rs t).2.1 = 2) ∧ -1 ≤ (fsT rs t).2.2 ∧ (fsT rs t).2.2 ≤ rs.length ∧ 0 ≤ cOv rs t ∧ 0 ≤ cUn rs t ∧ cOv rs t + cUn rs t ≤ rs.length := fsT_ok0 t rs h
/-- a weave that is told rightly -/
def awG (w : AW) : Prop := awWf w ∧ crOk w.2.2 ∧ crD w.2.2
theorem aw0_g : awG aw0 := ⟨aw0_wf, fun r hr => (by cases hr), fun r hr => (by cases hr)⟩
theorem x_rng {w : AW} {p s : Int} (h : awWf w) (hp : 0 ≤ p) (hp2 : p < 15) : (0 ≤ xOv w p s ∧ xOv w p s < 16) ∧ (0 ≤ xUn w p s ∧ xUn w p s < 16) ∧ ¬ xOv w p s = xUn w p s := by
  have a1 := h.1 p hp (by omega)
  have a2 := h.1 (p + 1) (by omega) (by omega)
  have a3 : ¬ w.1 p = w.1 (p + 1) := fun z => by have := h.2 p (p + 1) hp (by omega) (by omega) (by omega) z; omega
  unfold xOv xUn
  split
  · exact ⟨a1, a2, a3⟩
  · exact ⟨a2, a1, fun z => a3 z.symm⟩
theorem awX_g {w : AW} {p s b : Int} (h : awG w) (hp : 0 ≤ p) (hp2 : p < 15) (hs : s = 1 ∨ s = 2) : awG (awX w p s b) := by
  obtain ⟨r1, r2, r3⟩ := x_rng (s := s) h.1 hp hp2
  refine ⟨awX_wf hp hp2 h.1, crOk_snoc h.2.1 ⟨hp, hp2, hs⟩, fun r hr => ?_⟩
  rcases List.mem_append.mp hr with e | e
  · exact h.2.2 r e
  · have := List.mem_singleton.mp e
    subst this
    exact ⟨r3, r1.1, r1.2, r2.1, r2.2⟩
theorem awL_g {w : AW} {c g b : Int} (hg : 0 ≤ g) (hg2 : g < 7) (h : awG w) : awG (awL w c g b) := by
  unfold awL
  split
  · exact awX_g h (by omega) (by omega) (Or.inl rfl)
  · split
    · exact awX_g h (by omega) (by omega) (Or.inr rfl)
    · split
      · exact awX_g (awX_g h (by omega) (by omega) (Or.inr rfl)) (by omega) (by omega) (Or.inr rfl)
      · exact awX_g (awX_g h (by omega) (by omega) (Or.inl rfl)) (by omega) (by omega) (Or.inl rfl)
theorem awN_g {w : AW} {f : Int → Int} {g b : Int} (hg : 0 ≤ g) (hg2 : g < 7) (h : awG w) (n : Nat) : awG (awN w f g b n) := by
  induction n with
  | zero => exact h
  | succ n ih => exact awL_g hg hg2 ih
theorem awU_g {w : AW} {g : Int} (h : awG w) (n : Nat) : awG (awU w g n) := by
  unfold awG
  rw [awU_rec]
  exact ⟨awU_wf h.1 n, h.2⟩
theorem awS_g {N : Int → Int} {w : AW} {k g b : Int} (hg : 0 ≤ g) (hg2 : g < 7) (h : awG w) : awG (awS N w k g b) := awN_g hg hg2 (awU_g h 4) _
theorem awQ_g {N gp kd : Int → Int} {wk : Nat → Int} {many : Int} (h : stOk N gp kd many) (n : Nat) (hw : ∀ i, i < n → 0 ≤ wk i ∧ wk i < many) : awG (awQ N gp kd wk n) := by
  induction n with
  | zero => exact aw0_g
  | succ n ih =>
    have h1 := hw n (by omega)
    have h2 := h.2.2.1 _ h1.1 h1.2
    exact awS_g h2.2.2.1 h2.2.2.2 (ih (fun i hi => hw i (by omega)))
-- THE CLASS's weave at o
def CP (σ : St) (o : Nat) (u : Int → Int) (rs : List CR) : Prop :=
  (∀ t, 0 ≤ t → t < 16 → σ (o + 3) t = u t ∧ σ (o + 4) t = cOv rs t ∧ σ (o + 5) t = cUn rs t ∧ σ (o + 6) t = (fsT rs t).2.2 ∧ σ (o + 7) t = (fsT rs t).2.1) ∧ ∀ a b, 0 ≤ a → a < 16 → 0 ≤ b → b < 16 → σ (o + 8) (a * 16 + b) = cPs rs a b
def CW (σ : St) (o : Nat) (w : AW) : Prop :=
  (∀ i, 0 ≤ i → i < 16 → σ (o + 1) i = w.1 i) ∧ (∀ t, 0 ≤ t → t < 16 → 0 ≤ σ (o + 2) t ∧ σ (o + 2) t < 16 ∧ w.1 (σ (o + 2) t) = t) ∧ CP σ o w.2.1 w.2.2 ∧ σ o 9 = w.2.2.length ∧ HP σ (o + 9) (hR w.2.2)
theorem CP.fr {σ σ' : St} {o : Nat} {u : Int → Int} {rs : List CR} (h : CP σ o u rs) (e : ∀ k, o + 3 ≤ k → k ≤ o + 8 → σ' k = σ k) : CP σ' o u rs := by
  refine ⟨fun t a b => ?_, fun x y a b c d => ?_⟩
  · rw [e (o + 3) (by omega) (by omega), e (o + 4) (by omega) (by omega), e (o + 5) (by omega) (by omega), e (o + 6) (by omega) (by omega), e (o + 7) (by omega) (by omega)]
    exact h.1 t a b
  · rw [e (o + 8) (by omega) (by omega)]
    exact h.2 x y a b c d
theorem CW.fr {σ σ' : St} {o lo hi : Nat} {w : AW} (h : CW σ o w) (f : cfr lo hi σ σ') (hh : o + 11 < lo ∨ hi < o) : CW σ' o w := by
  obtain ⟨h1, h2, h3, h4, h5⟩ := h
  refine ⟨fun i a b => by rw [f (o + 1) (by omega)]; exact h1 i a b, fun i a b => by rw [f (o + 2) (by omega)]; exact h2 i a b, h3.fr (fun k a b => f k (by omega)), by rw [f o (by omega)]; exact h4, h5.fr f (by omega)⟩
theorem noteSide_ok {σ : St} {o : Nat} {t side : Int} {Q : St → Prop} (ht : 0 ≤ t) (ht2 : t < 16) (hs : side = 1 ∨ side = 2) (r7 : σ (o + 7) t = 0 ∨ σ (o + 7) t = 1 ∨ σ (o + 7) t = 2) (r6 : -1 ≤ σ (o + 6) t ∧ σ (o + 6) t ≤ 800)
    (h : Q (ss (if σ (o + 7) t = side ∧ σ (o + 6) t < 0 then ss σ (o + 6) t (σ (o + 4) t + σ (o + 5) t) else σ) (o + 7) t side)) : V_Weave_noteSide o σ t side Q := by
  unfold V_Weave_noteSide
  rw [i32_id (x := t) (by omega) (by omega), i32_id (x := side) (by omega) (by omega), i32_id (x := σ (o + 7) t) (by omega) (by omega), i32_id (x := σ (o + 6) t) (by omega) (by omega)]
  refine ⟨⟨ht, ht2⟩, fun c1 => ⟨⟨ht, ht2⟩, fun σ1 e1 => ?_⟩, fun c1 => ⟨⟨ht, ht2⟩, fun c2 => ⟨⟨ht, ht2⟩, fun σ1 e1 => ?_⟩, fun c2 => ⟨⟨ht, ht2⟩, ⟨ht, ht2⟩, ⟨ht, ht2⟩, fun σ1 e1 => ⟨⟨ht, ht2⟩, fun σ2 e2 => ?_⟩⟩⟩⟩
  · rw [if_neg (fun z => c1 z.1)] at h
    rw [e1]; exact h
  · rw [if_neg (fun z => by omega)] at h
    rw [e1]; exact h
  · rw [if_pos ⟨c1, c2⟩] at h
    rw [e2, e1]; exact h
theorem pass_ok {σ : St} {o : Nat} {u : Int → Int} {rs : List CR} {p s ov un b : Int} {Q : St → Prop} (hC : CP σ o u rs) (hD : crD rs) (hlen : rs.length ≤ 800) (h1 : 0 ≤ ov) (h2 : ov < 16) (h3 : 0 ≤ un) (h4 : un < 16) (hne : ¬ ov = un)
    (h : ∀ σ', CP σ' o (upf (upf u ov (u ov + 2)) un (u un + 1)) (rs ++ [(p, s, ov, un, b)]) → cfr (o + 3) (o + 8) σ σ' → Q σ') : V_Weave_pass o σ ov un Q := by
  obtain ⟨c1, c2⟩ := hC
  have fO := fsT_ok hD ov
  have fU := fsT_ok hD un
  have cO := c1 ov h1 h2
  have cU := c1 un h3 h4
  obtain ⟨fO1, fO2, fO3, fO4, fO5, fO6, fO7⟩ := fO
  obtain ⟨fU1, fU2, fU3, fU4, fU5, fU6, fU7⟩ := fU
  have hne' : ¬ un = ov := fun z => hne z.symm
  unfold V_Weave_pass
  refine noteSide_ok h1 h2 (Or.inl rfl) (by rw [cO.2.2.2.2]; exact fO2) (by rw [cO.2.2.2.1]; omega) ?_
  obtain ⟨σ1, e1⟩ : ∃ z, z = (if σ (o + 7) ov = 1 ∧ σ (o + 6) ov < 0 then ss σ (o + 6) ov (σ (o + 4) ov + σ (o + 5) ov) else σ) := ⟨_, rfl⟩
  rw [← e1]
  obtain ⟨σ2, e2⟩ : ∃ z, z = ss σ1 (o + 7) ov 1 := ⟨_, rfl⟩
  rw [← e2]
  -- what the first note did
  have k1 : ∀ k, k ≠ o + 6 → σ1 k = σ k := by
    intro k hk
    rw [e1]
    split
    · rw [ss_row _ hk]
    · rfl
  have a6 : ∀ t, σ2 (o + 6) t = if t = ov ∧ σ (o + 7) ov = 1 ∧ σ (o + 6) ov < 0 then σ (o + 4) ov + σ (o + 5) ov else σ (o + 6) t := by
    intro t
    rw [e2, ss_row _ (by omega), e1]
    by_cases c : σ (o + 7) ov = 1 ∧ σ (o + 6) ov < 0
    · rw [if_pos c, ss_self]
      by_cases c3 : t = ov
      · simp [c3, c]
      · simp [c3]
    · rw [if_neg c, if_neg (fun z => c z.2)]
  have a7 : ∀ t, σ2 (o + 7) t = if t = ov then 1 else σ (o + 7) t := by
    intro t
    rw [e2, ss_self, k1 _ (by omega)]
  have ak : ∀ k, k ≠ o + 6 → k ≠ o + 7 → σ2 k = σ k := by
    intro k x y
    rw [e2, ss_row _ y, k1 k x]
  have u6 : σ2 (o + 6) un = σ (o + 6) un := by rw [a6, if_neg (fun z => hne' z.1)]
  have u7 : σ2 (o + 7) un = σ (o + 7) un := by rw [a7, if_neg hne']
  refine noteSide_ok h3 h4 (Or.inr rfl) (by rw [u7, cU.2.2.2.2]; exact fU2) (by rw [u6, cU.2.2.2.1]; omega) ?_
  rw [u6, u7, ak (o + 4) (by omega) (by omega), ak (o + 5) (by omega) (by omega)]
  obtain ⟨σ3, e3⟩ : ∃ z, z = (if σ (o + 7) un = 2 ∧ σ (o + 6) un < 0 then ss σ2 (o + 6) un (σ (o + 4) un + σ (o + 5) un) else σ2) := ⟨_, rfl⟩
  rw [← e3]
  obtain ⟨σ4, e4⟩ : ∃ z, z = ss σ3 (o + 7) un 2 := ⟨_, rfl⟩
  rw [← e4]
  have k3 : ∀ k, k ≠ o + 6 → σ3 k = σ2 k := by
    intro k hk
    rw [e3]
    split
    · rw [ss_row _ hk]
    · rfl
  have b6 : ∀ t, σ4 (o + 6) t = if t = un ∧ σ (o + 7) un = 2 ∧ σ (o + 6) un < 0 then σ (o + 4) un + σ (o + 5) un else σ2 (o + 6) t := by
    intro t
    rw [e4, ss_row _ (by omega), e3]
    by_cases c : σ (o + 7) un = 2 ∧ σ (o + 6) un < 0
    · rw [if_pos c, ss_self]
      by_cases c3 : t = un
      · simp [c3, c]
      · simp [c3]
    · rw [if_neg c, if_neg (fun z => c z.2)]
  have b7 : ∀ t, σ4 (o + 7) t = if t = un then 2 else σ2 (o + 7) t := by
    intro t
    rw [e4, ss_self, k3 _ (by omega)]
  have bk : ∀ k, k ≠ o + 6 → k ≠ o + 7 → σ4 k = σ k := by
    intro k x y
    rw [e4, ss_row _ y, k3 k x, ak k x y]
  have i1 : i32 ov = ov := i32_id (by omega) (by omega)
  have i2 : i32 un = un := i32_id (by omega) (by omega)
  have i3 : i32 (ov * 16 + un) = ov * 16 + un := i32_id (by omega) (by omega)
  rw [i1, i2, i3]
  refine ⟨⟨h1, h2⟩, ⟨h1, h2⟩, fun s1 d1 => ⟨⟨h3, h4⟩, ⟨h3, h4⟩, fun s2 d2 => ⟨⟨h1, h2⟩, ⟨h1, h2⟩, fun s3 d3 => ⟨⟨h3, h4⟩, ⟨h3, h4⟩, fun s4 d4 => ⟨⟨by omega, by omega⟩, ⟨by omega, by omega⟩, fun s5 d5 => h s5 ⟨fun t ha hb => ?_, fun x y ha hb hc hd => ?_⟩ ?_⟩⟩⟩⟩⟩
  · have ct := c1 t ha hb
    have ft := fsT_ok hD t
    rw [cOv_snoc, cUn_snoc, fsT_snoc]
    refine ⟨?_, ?_, ?_, ?_, ?_⟩
    · rw [d5, ss_row _ (by omega), d4, ss_self]
      show (if t = un then s3 (o + 3) un + 1 else s3 (o + 3) t) = _
      rw [d3, ss_self, d2, ss_row _ (by omega), d1, ss_row _ (by omega), bk _ (by omega) (by omega)]
      unfold upf
      by_cases q1 : t = un
      · rw [if_pos q1, if_pos q1]
        simp only [hne', if_false]
        rw [cU.1]
      · rw [if_neg q1, if_neg q1]
        by_cases q2 : t = ov
        · simp only [q2, if_true]
          rw [cO.1]
        · simp only [q2, if_false]
          exact ct.1
    · rw [d5, ss_row _ (by omega), d4, ss_row _ (by omega), d3, ss_row _ (by omega), d2, ss_row _ (by omega), d1, ss_self, bk _ (by omega) (by omega)]
      show (if t = ov then σ (o + 4) ov + 1 else σ (o + 4) t) = cOv rs t + (if ov = t then 1 else 0)
      by_cases q2 : t = ov
      · rw [if_pos q2, if_pos q2.symm, q2, cO.2.1]
      · rw [if_neg q2, if_neg (fun z => q2 z.symm), ct.2.1]
        omega
    · rw [d5, ss_row _ (by omega), d4, ss_row _ (by omega), d3, ss_row _ (by omega), d2, ss_self, d1, ss_row _ (by omega), bk _ (by omega) (by omega)]
      show (if t = un then σ (o + 5) un + 1 else σ (o + 5) t) = cUn rs t + (if un = t then 1 else 0)
      by_cases q2 : t = un
      · rw [if_pos q2, if_pos q2.symm, q2, cU.2.2.1]
      · rw [if_neg q2, if_neg (fun z => q2 z.symm), ct.2.2.1]
        omega
    · rw [d5, ss_row _ (by omega), d4, ss_row _ (by omega), d3, ss_row _ (by omega), d2, ss_row _ (by omega), d1, ss_row _ (by omega), b6, a6]
      unfold fsS
      by_cases q1 : ov = t
      · subst q1
        rw [if_neg (fun z => hne z.1), cO.2.2.2.1, cO.2.2.2.2, cO.2.1, cO.2.2.1]
        simp only [if_true, true_and]
        rw [fO1]
      · rw [if_neg (show ¬ (p, s, ov, un, b).2.2.1 = t from q1)]
        rw [if_neg (show ¬ (t = ov ∧ σ (o + 7) ov = 1 ∧ σ (o + 6) ov < 0) from fun z => q1 z.1.symm)]
        by_cases q2 : un = t
        · subst q2
          rw [cU.2.2.2.1, cU.2.2.2.2, cU.2.1, cU.2.2.1]
          simp only [if_true, true_and]
          rw [fU1]
        · rw [if_neg (show ¬ (p, s, ov, un, b).2.2.2.1 = t from q2), if_neg (fun z => q2 z.1.symm)]
          exact ct.2.2.2.1
    · rw [d5, ss_row _ (by omega), d4, ss_row _ (by omega), d3, ss_row _ (by omega), d2, ss_row _ (by omega), d1, ss_row _ (by omega), b7, a7]
      unfold fsS
      by_cases q1 : ov = t
      · subst q1
        rw [if_neg hne]
        simp only [if_true]
      · rw [if_neg (show ¬ (p, s, ov, un, b).2.2.1 = t from q1), if_neg (show ¬ t = ov from fun z => q1 z.symm)]
        by_cases q2 : un = t
        · subst q2
          simp only [if_true]
        · rw [if_neg (show ¬ (p, s, ov, un, b).2.2.2.1 = t from q2), if_neg (fun z => q2 z.symm)]
          exact ct.2.2.2.2
  · rw [d5, ss_self, d4, ss_row _ (by omega), d3, ss_row _ (by omega), d2, ss_row _ (by omega), d1, ss_row _ (by omega), bk _ (by omega) (by omega), cPs_snoc]
    show (if x * 16 + y = ov * 16 + un then σ (o + 8) (ov * 16 + un) + 1 else σ (o + 8) (x * 16 + y)) = cPs rs x y + (if ov = x ∧ un = y then 1 else 0)
    by_cases q : ov = x ∧ un = y
    · rw [if_pos q, if_pos (by omega), ← q.1, ← q.2, c2 ov un h1 h2 h3 h4]
    · rw [if_neg q, if_neg (by omega), c2 x y ha hb hc hd]
      omega
  · intro k hk
    rw [d5, ss_row _ (by omega), d4, ss_row _ (by omega), d3, ss_row _ (by omega), d2, ss_row _ (by omega), d1, ss_row _ (by omega), bk k (by omega) (by omega)]
