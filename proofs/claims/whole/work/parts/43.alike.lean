-- ALIKE
theorem cntv_le {f g : Int → Int} {v : Int} (n : Nat) (h : ∀ i : Nat, i < n → f i = v → g i = v) : cntv f v n ≤ cntv g v n := by
  induction n with
  | zero => exact Int.le_refl _
  | succ n ih =>
    have := ih (fun i hi => h i (by omega))
    have hn := h n (by omega)
    unfold cntv
    by_cases c : f n = v
    · rw [if_pos c, if_pos (hn c)]; omega
    · rw [if_neg c]; split <;> omega
theorem cntv_lt {f g : Int → Int} {v : Int} (n : Nat) (h : ∀ i : Nat, i < n → f i = v → g i = v) {k : Nat} (hk : k < n) (h1 : g k = v) (h2 : ¬ f k = v) : cntv f v n < cntv g v n := by
  induction n with
  | zero => omega
  | succ n ih =>
    have hn := h n (by omega)
    unfold cntv
    by_cases ck : k = n
    · subst ck
      have := cntv_le k (fun i hi => h i (by omega))
      rw [if_neg h2, if_pos h1]
      omega
    · have := ih (fun i hi => h i (by omega)) (by omega)
      by_cases c : f n = v
      · rw [if_pos c, if_pos (hn c)]; omega
      · rw [if_neg c]; split <;> omega
theorem hp_mem {R : List HI} (h : hWf R) {y : HI} (hy : y ∈ R) : 0 ≤ y.2.2 ∧ y.2.2 < hT R y.1 ∧ 0 ≤ y.1 ∧ y.1 < 15 ∧ (y.2.1 = 1 ∨ y.2.1 = 2) := by
  have e := sg_mem h hy
  by_cases c : sg R y.2.2 y.1 = 0
  · exfalso
    -- a sign is never 0
    have key : ∀ (R : List HI), hWf R → ∀ y ∈ R, y.2.1 = 1 ∨ y.2.1 = 2 := by
      intro R
      induction R with
      | nil => intro _ y hy; cases hy
      | cons x R ih =>
        intro hw y hy
        rcases List.mem_cons.mp hy with q | q
        · rw [q]; obtain ⟨_, _, _, hs, _⟩ := hw; first | exact hs | omega
        · exact ih (hWf_app (pre := [x]) hw) y q
    have := key R h y hy
    omega
  · have := sg_rng h c
    rw [e] at this
    exact this
/-- two heaps show the same -/
def hEq (A B : List HI) : Prop := ∀ l p, 0 ≤ l → l < 96 → 0 ≤ p → p < 15 → sg A l p = sg B l p
theorem hEq_iff {A B : List HI} (hA : hWf A) (hB : hWf B) (a96 : ∀ p, hT A p ≤ 96) (b96 : ∀ p, hT B p ≤ 96) : hEq A B ↔ (hL A 15 = hL B 15 ∧ A.length = B.length ∧ ∀ x ∈ A, sg B x.2.2 x.1 = x.2.1) := by
  have cA1 := sgF_cnt hA a96 (v := 1) (by decide)
  have cA2 := sgF_cnt hA a96 (v := 2) (by decide)
  have cB1 := sgF_cnt hB b96 (v := 1) (by decide)
  have cB2 := sgF_cnt hB b96 (v := 2) (by decide)
  have tA := hC_all hA
  have tB := hC_all hB
  have lay : ∀ {X Y : List HI}, hWf X → hWf Y → (∀ p, hT X p ≤ 96) → hEq X Y → hL X 15 ≤ hL Y 15 := by
    intro X Y hX hY x96 he
    rcases hL_at hX with q | ⟨y, y1, y2⟩
    · rcases hL_at hY with w | ⟨z, z1, z2⟩
      · omega
      · have := hp_mem hY z1; omega
    · obtain ⟨m1, m2, m3, m4, m5⟩ := hp_mem hX y1
      have e := sg_mem hX y1
      have h96 := x96 y.1
      have e2 := he y.2.2 y.1 m1 (by omega) m3 m4
      obtain ⟨z, z1, z2, z3, z4⟩ := sg_ex (R := Y) (l := y.2.2) (p := y.1) (by rw [← e2, e]; omega)
      have := hL_ge hY z1
      omega
  constructor
  · intro h
    have hc : ∀ v, cntv (sgF A) v 1440 = cntv (sgF B) v 1440 := fun v => cntv_congr (fun i hi => by
      unfold sgF
      exact h _ _ (by omega) (by omega) (by omega) (by omega))
    refine ⟨Int.le_antisymm (lay hA hB a96 h) (lay hB hA b96 (fun l p x y z w => (h l p x y z w).symm)), ?_, fun x hx => ?_⟩
    · have := hc 1
      have := hc 2
      omega
    · obtain ⟨m1, m2, m3, m4, m5⟩ := hp_mem hA hx
      have h96 := a96 x.1
      rw [← h x.2.2 x.1 m1 (by omega) m3 m4]
      exact sg_mem hA hx
  · intro ⟨_, h2, h3⟩
    have sub : ∀ l p, ¬ sg A l p = 0 → sg B l p = sg A l p := by
      intro l p hne
      obtain ⟨y, y1, y2, y3, y4⟩ := sg_ex hne
      have := h3 y y1
      rw [y2, y3, y4] at this
      exact this
    have mono : ∀ v, (v = 1 ∨ v = 2) → ∀ i : Nat, i < 1440 → sgF A i = v → sgF B i = v := by
      intro v hv i hi e
      unfold sgF at e ⊢
      rw [sub _ _ (by omega)]
      exact e
    intro l p x y z w
    by_cases c : sg A l p = sg B l p
    · exact c
    · exfalso
      have hz : sg A l p = 0 := by
        by_cases c2 : sg A l p = 0
        · exact c2
        · exact absurd (sub l p c2).symm c
      have hb : sg B l p = 1 ∨ sg B l p = 2 := by
        have := sg_01 hB l p
        omega
      have k1 := cntv_le 1440 (mono 1 (Or.inl rfl))
      have k2 := cntv_le 1440 (mono 2 (Or.inr rfl))
      have ek : sgF A ((l * 15 + p).toNat : Int) = sg A l p ∧ sgF B ((l * 15 + p).toNat : Int) = sg B l p := by
        unfold sgF
        rw [show (((l * 15 + p).toNat : Nat) : Int) = l * 15 + p by omega, show (l * 15 + p) / 15 = l by omega, show (l * 15 + p) % 15 = p by omega]
        exact ⟨rfl, rfl⟩
      rcases hb with hb | hb
      · have := cntv_lt 1440 (mono 1 (Or.inl rfl)) (k := (l * 15 + p).toNat) (by omega) (by rw [ek.2]; exact hb) (by rw [ek.1]; omega)
        omega
      · have := cntv_lt 1440 (mono 2 (Or.inr rfl)) (k := (l * 15 + p).toNat) (by omega) (by rw [ek.2]; exact hb) (by rw [ek.1]; omega)
        omega
theorem isAs_ok {σ : St} {A B : List HI} {Q : Int → St → Prop} (hA : HP σ 38 A) (hB : HP σ 13 B) (wA : hWf A) (wB : hWf B) (h1 : hEq A B → Q 1 σ) (h0 : ¬ hEq A B → Q 0 σ) : V_Heap_isAs σ Q := by
  have cell : ∀ i, 0 ≤ i → i < 1440 → σ 39 i = sg A (i / 15) (i % 15) ∧ σ 14 i = sg B (i / 15) (i % 15) := by
    intro i a b
    have e : i / 15 * 15 + i % 15 = i := by omega
    have x := hA.2.1 (i / 15) (i % 15) (by omega) (by omega) (by omega) (by omega)
    have y := hB.2.1 (i / 15) (i % 15) (by omega) (by omega) (by omega) (by omega)
    rw [e] at x y
    exact ⟨x, y⟩
  unfold V_Heap_isAs
  refine wl1 (fun i u => u = σ ∧ 0 ≤ i ∧ i ≤ 1440 ∧ ∀ j, 0 ≤ j → j < i → sg A (j / 15) (j % 15) = sg B (j / 15) (j % 15)) (fun i _ => (1440 - i).toNat) ⟨rfl, by omega, by omega, fun j a b => by omega⟩ ?_
  intro bk i u hI hb
  obtain ⟨rfl, i1, i2, i3⟩ := hI
  rw [i32_id (x := i) (by omega) (by omega)]
  refine ⟨fun hc => h1 (fun l p a b c d => ?_), fun hc => ⟨⟨i1, hc⟩, ⟨i1, hc⟩, ?_⟩⟩
  · have := i3 (l * 15 + p) (by omega) (by omega)
    rw [show (l * 15 + p) / 15 = l by omega, show (l * 15 + p) % 15 = p by omega] at this
    exact this
  · obtain ⟨c1, c2⟩ := cell i i1 hc
    have s1 := sg_01 wA (i / 15) (i % 15)
    have s2 := sg_01 wB (i / 15) (i % 15)
    rw [c1, c2, i32_id (x := sg A (i / 15) (i % 15)) (by omega) (by omega), i32_id (x := sg B (i / 15) (i % 15)) (by omega) (by omega)]
    refine ⟨fun h => hb _ _ ⟨rfl, by omega, by omega, fun j a b => ?_⟩ (by omega), fun h => h0 (fun z => h (z _ _ (by omega) (by omega) (by omega) (by omega)))⟩
    by_cases cj : j = i
    · rw [cj]; exact h
    · exact i3 j a (by omega)
