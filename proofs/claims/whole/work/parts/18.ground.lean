-- STITCHES: (row, gap, kind, level, those ahead)
abbrev GR : Type := Int × Int × Int × Int × Int
/-- level and those ahead of a stitch at a row and a gap, out of the first n of those listed -/
def gF (S : List GR) (r g : Int) : Nat → Int × Int
  | 0 => (0, 0)
  | n + 1 => match S[n]? with
    | none => gF S r g n
    | some x => if x.1 < r ∧ -1 ≤ x.2.1 - g ∧ x.2.1 - g ≤ 1 then (max (gF S r g n).1 (x.2.2.2.1 + 1), lro (gF S r g n).2 (lro x.2.2.2.2 (lsh 1 n))) else gF S r g n
def gNew (S : List GR) (r g k : Int) : List GR := S ++ [(r, g, k, (gF S r g S.length).1, (gF S r g S.length).2)]
def gRow (N : Int → Int) (S : List GR) (r : Int) : Nat → List GR
  | 0 => S
  | g + 1 => if 0 ≤ N (2 + 7 * r + g) then gNew (gRow N S r g) r g (N (2 + 7 * r + g)) else gRow N S r g
def gAll (N : Int → Int) (gaps : Nat) : Nat → List GR
  | 0 => []
  | r + 1 => gRow N (gAll N gaps r) r gaps
def gDeep (S : List GR) : Int := match S.getLast? with
  | none => 0
  | some x => x.1 + 1
def GC (σ : St) (S : List GR) : Prop := σ 16 0 = S.length ∧ σ 16 1 = gDeep S ∧ ∀ (i : Nat) (x : GR), S[i]? = some x → σ 17 i = x.1 ∧ σ 18 i = x.2.1 ∧ σ 19 i = x.2.2.1 ∧ σ 20 i = x.2.2.2.1 ∧ σ 21 i = x.2.2.2.2
def GM (τ : St) (S : List GR) : Prop := τ 0 5 = S.length ∧ ∀ (i : Nat) (x : GR), S[i]? = some x → τ 5 i = x.1 ∧ τ 6 i = x.2.1 ∧ τ 7 i = x.2.2.1 ∧ τ 8 i = x.2.2.2.1 ∧ τ 9 i = x.2.2.2.2
/-- listed stitches are within -/
def gOk (S : List GR) : Prop := ∀ (i : Nat) (x : GR), S[i]? = some x → 0 ≤ x.1 ∧ x.1 < 12 ∧ 0 ≤ x.2.1 ∧ x.2.1 < 7 ∧ 0 ≤ x.2.2.1 ∧ x.2.2.1 < 6 ∧ 0 ≤ x.2.2.2.1 ∧ x.2.2.2.1 ≤ i
theorem gF_rng {S : List GR} (h : gOk S) (r g : Int) (n : Nat) : 0 ≤ (gF S r g n).1 ∧ (gF S r g n).1 ≤ n := by
  induction n with
  | zero => exact ⟨Int.le_refl _, Int.le_refl _⟩
  | succ n ih =>
    unfold gF
    cases e : S[n]? with
    | none => exact ⟨ih.1, by simp only; omega⟩
    | some x =>
      have := h n x e
      simp only
      split
      · simp only; omega
      · omega
theorem gNew_ok {S : List GR} (h : gOk S) {r g k : Int} (hr : 0 ≤ r) (hr2 : r < 12) (hg : 0 ≤ g) (hg2 : g < 7) (hk : 0 ≤ k) (hk2 : k < 6) : gOk (gNew S r g k) := by
  intro i x hx
  unfold gNew at hx
  by_cases c : i < S.length
  · rw [List.getElem?_append_left c] at hx
    exact h i x hx
  · have hi := (List.getElem?_eq_some_iff.mp hx).1
    rw [List.length_append, List.length_singleton] at hi
    have : i = S.length := by omega
    subst this
    rw [List.getElem?_append_right (Nat.le_refl _)] at hx
    simp at hx
    subst hx
    have := gF_rng h r g S.length
    exact ⟨hr, hr2, hg, hg2, hk, hk2, this.1, this.2⟩
theorem gNew_len (S : List GR) (r g k : Int) : (gNew S r g k).length = S.length + 1 := by simp [gNew]
theorem gNew_at (S : List GR) (r g k : Int) {i : Nat} {x : GR} (hx : (gNew S r g k)[i]? = some x) : (i < S.length ∧ S[i]? = some x) ∨ (i = S.length ∧ x = (r, g, k, (gF S r g S.length).1, (gF S r g S.length).2)) := by
  unfold gNew at hx
  by_cases c : i < S.length
  · rw [List.getElem?_append_left c] at hx
    exact Or.inl ⟨c, hx⟩
  · have hi := (List.getElem?_eq_some_iff.mp hx).1
    rw [List.length_append, List.length_singleton] at hi
    have : i = S.length := by omega
    subst this
    rw [List.getElem?_append_right (Nat.le_refl _)] at hx
    simp at hx
    exact Or.inr ⟨rfl, hx.symm⟩
theorem gNew_deep (S : List GR) (r g k : Int) : gDeep (gNew S r g k) = r + 1 := by
  unfold gDeep gNew
  rw [List.getLast?_append]
  rfl
theorem enter_ok {σ : St} {S : List GR} {r g k : Int} {Q : St → Prop} (hS : GC σ S) (hk : gOk S) (hlen : S.length < 48) (hr : 0 ≤ r) (hr2 : r < 12) (hg : 0 ≤ g) (hg2 : g < 7)
    (h : ∀ σ', GC σ' (gNew S r g k) → cfr 16 21 σ σ' → Q σ') : V_Ground_enter σ r g k Q := by
  obtain ⟨s1, s2, s3⟩ := hS
  unfold V_Ground_enter
  intro s hs
  rw [s1] at hs
  have es : i32 s = s := i32_id (by omega) (by omega)
  rw [es]
  refine ⟨⟨by omega, by omega⟩, fun t2 h2 => ⟨⟨by omega, by omega⟩, fun t3 h3 => ⟨⟨by omega, by omega⟩, fun t4 h4 => ⟨⟨by omega, by omega⟩, fun t5 h5 => ⟨⟨by omega, by omega⟩, fun t6 h6 => ?_⟩⟩⟩⟩⟩
  refine wl1 (fun i u => ∃ n : Nat, n ≤ S.length ∧ i = n ∧ (∀ (j : Nat) (x : GR), S[j]? = some x → u 17 j = x.1 ∧ u 18 j = x.2.1 ∧ u 19 j = x.2.2.1 ∧ u 20 j = x.2.2.2.1 ∧ u 21 j = x.2.2.2.2) ∧ u 17 s = r ∧ u 18 s = g ∧ u 19 s = k ∧ u 20 s = (gF S r g n).1 ∧ u 21 s = (gF S r g n).2 ∧ u 16 0 = s ∧ cfr 16 21 σ u) (fun i _ => (S.length - i).toNat) ⟨0, by omega, rfl, fun j x hx => ?_, ?_, ?_, ?_, ?_, ?_, ?_, ?_⟩ ?_
  · have hj := (List.getElem?_eq_some_iff.mp hx).1
    have hne : ¬ (j : Int) = s := by omega
    have := s3 j x hx
    rw [h6, h5, h4, h3, h2]
    simp [ss, hne, this]
  · rw [h6, h5, h4, h3, h2]; simp [ss]
  · rw [h6, h5, h4, h3, h2]; simp [ss]
  · rw [h6, h5, h4, h3, h2]; simp [ss]
  · rw [h6, h5, h4, h3, h2]; simp [ss, gF]
  · rw [h6, h5, h4, h3, h2]; simp [ss, gF]
  · rw [h6, h5, h4, h3, h2]; simp [ss]; rw [s1, hs]
  · rw [h6, h5, h4, h3, h2]
    exact ((((cfr.s (by omega) (by omega)).tr (cfr.s (by omega) (by omega))).tr (cfr.s (by omega) (by omega))).tr (cfr.s (by omega) (by omega))).tr (cfr.s (by omega) (by omega))
  · intro bk i u hI hb
    obtain ⟨n, hn, rfl, i3, i4, i5, i6, i7, i8, i9, i10⟩ := hI
    rw [i32_id (x := (n : Int)) (by omega) (by omega), i32_id (x := r) (by omega) (by omega)]
    refine ⟨fun hc u1 f1 u2 f2 => ?_, fun hc => ⟨⟨by omega, by omega⟩, ?_⟩⟩
    · have hnn : n = S.length := by omega
      subst hnn
      refine h u2 ⟨?_, ?_, fun j x hx => ?_⟩ ?_
      · rw [f2, ss_ne _ _ (by decide), f1, ss_at, i9, gNew_len, hs]
        omega
      · rw [f2, ss_at, gNew_deep]
      · rw [f2, ss_row _ (by decide), ss_row _ (by decide), ss_row _ (by decide), ss_row _ (by decide), ss_row _ (by decide), f1, ss_row _ (by decide), ss_row _ (by decide), ss_row _ (by decide), ss_row _ (by decide), ss_row _ (by decide)]
        rcases gNew_at S r g k hx with ⟨_, e⟩ | ⟨e1, e2⟩
        · exact i3 j x e
        · rw [e1, e2, ← hs]
          exact ⟨i4, i5, i6, i7, i8⟩
      · rw [f2, f1]
        exact (i10.tr (cfr.s (by omega) (by omega))).tr (cfr.s (by omega) (by omega))
    · have hnl : n < S.length := by omega
      obtain ⟨x, hx⟩ : ∃ x, S[n]? = some x := ⟨S[n]'hnl, List.getElem?_eq_getElem hnl⟩
      have hxr := hk n x hx
      obtain ⟨x1, x2, x3, x4, x5⟩ := i3 n x hx
      have hrng := gF_rng hk r g n
      rw [x1, x2, i32_id (x := x.1) (by omega) (by omega), mab_abs (i32_id (x := x.2.1 - g) (by omega) (by omega))]
      have hab : i32 (if 0 ≤ x.2.1 - g then x.2.1 - g else -(x.2.1 - g)) = if 0 ≤ x.2.1 - g then x.2.1 - g else -(x.2.1 - g) := by
        split
        · exact i32_id (by omega) (by omega)
        · exact i32_id (by omega) (by omega)
      rw [hab]
      have keep : ¬ (x.1 < r ∧ -1 ≤ x.2.1 - g ∧ x.2.1 - g ≤ 1) → bk ((n : Int) + 1) u := by
        intro hno
        refine hb _ _ ⟨n + 1, by omega, by omega, i3, i4, i5, i6, ?_, ?_, i9, i10⟩ (by omega)
        · rw [i7]; unfold gF; rw [hx]; simp only; rw [if_neg hno]; cases n <;> rfl
        · rw [i8]; unfold gF; rw [hx]; simp only; rw [if_neg hno]; cases n <;> rfl
      refine ⟨fun c1 => keep (by omega), fun c1 => ⟨⟨by omega, by omega⟩, fun c2 => keep ?_, fun c2 => ⟨⟨by omega, by omega⟩, ⟨by omega, by omega⟩, ⟨by omega, by omega⟩, fun u1 f1 => ⟨⟨by omega, by omega⟩, ⟨by omega, by omega⟩, ⟨by omega, by omega⟩, fun u2 f2 => ?_⟩⟩⟩⟩
      · split at c2 <;> omega
      · have hyes : x.1 < r ∧ -1 ≤ x.2.1 - g ∧ x.2.1 - g ≤ 1 := by
          split at c2 <;> omega
        have hne : ¬ (n : Int) = s := by omega
        have e20 : u1 20 = u 20 := by rw [f1, ss_row _ (by decide)]
        rw [e20, i7, x4] at f2
        rw [mxi_max (i32_id (by omega) (by omega)) (i32_id (by omega) (by omega))] at f2
        rw [i8, x5] at f1
        refine hb _ _ ⟨n + 1, by omega, by omega, fun j y hy => ?_, ?_, ?_, ?_, ?_, ?_, ?_, ?_⟩ (by omega)
        · have hj := (List.getElem?_eq_some_iff.mp hy).1
          have hne2 : ¬ (j : Int) = s := by omega
          have := i3 j y hy
          rw [f2, f1]
          simp [ss, hne2, this]
        · rw [f2, f1]; simp [ss, i4]
        · rw [f2, f1]; simp [ss, i5]
        · rw [f2, f1]; simp [ss, i6]
        · rw [f2, ss_at]; conv => rhs; unfold gF
          rw [hx]; simp only; rw [if_pos hyes]
        · rw [f2, ss_row _ (by decide), f1, ss_at]; conv => rhs; unfold gF
          rw [hx]; simp only; rw [if_pos hyes]
        · rw [f2, f1]; simp [ss, i9]
        · rw [f2, f1]
          exact (i10.tr (cfr.s (by omega) (by omega))).tr (cfr.s (by omega) (by omega))
abbrev gmK : List Nat := [5, 6, 7, 8, 9]
abbrev gmJ : List Int := [5]
theorem Madd_ok {τ : St} {S : List GR} {r g : Int} {Q : St → Prop} (hS : GM τ S) (hk : gOk S) (hlen : S.length < 48) (hr : 0 ≤ r) (hr2 : r < 12) (hg : 0 ≤ g) (hg2 : g < 7)
    (h : ∀ τ', GM τ' (gNew S r g (τ 1 (2 + 7 * r + g))) → frm gmK gmJ τ τ' → Q τ') : V_M_add τ r g Q := by
  obtain ⟨s1, s3⟩ := hS
  obtain ⟨s, hs⟩ : ∃ s : Int, s = S.length := ⟨_, rfl⟩
  rw [← hs] at s1
  have es : i32 s = s := i32_id (by omega) (by omega)
  unfold V_M_add
  rw [s1, es]
  refine ⟨⟨by omega, by omega⟩, fun t1 h1 => ?_⟩
  have c1 : t1 0 5 = s := by rw [h1]; simp [ss, s1]
  rw [c1, es]
  refine ⟨⟨by omega, by omega⟩, fun t2 h2 => ?_⟩
  have c2 : t2 0 5 = s := by rw [h2]; simp [ss, c1]
  unfold V_M_held
  have t21 : t2 1 = τ 1 := by rw [h2, h1, ss_row _ (by decide), ss_row _ (by decide)]
  rw [i32_id (x := 2 + 7 * r + g) (by omega) (by omega), t21, c2, es]
  refine ⟨⟨by omega, by omega⟩, ⟨by omega, by omega⟩, fun t5 h5 => ?_⟩
  have c5 : t5 0 5 = s := by rw [h5]; simp [ss, c2]
  rw [c5, es]
  refine ⟨⟨by omega, by omega⟩, fun t6 h6 => ?_⟩
  have c6 : t6 0 5 = s := by rw [h6]; simp [ss, c5]
  rw [c6, es]
  refine ⟨⟨by omega, by omega⟩, fun t7 h7 => ?_⟩
  obtain ⟨k, hkk⟩ : ∃ k, k = τ 1 (2 + 7 * r + g) := ⟨_, rfl⟩
  rw [← hkk] at h5 h
  refine wl1 (fun i u => ∃ n : Nat, n ≤ S.length ∧ i = n ∧ (∀ (j : Nat) (x : GR), S[j]? = some x → u 5 j = x.1 ∧ u 6 j = x.2.1 ∧ u 7 j = x.2.2.1 ∧ u 8 j = x.2.2.2.1 ∧ u 9 j = x.2.2.2.2) ∧ u 5 s = r ∧ u 6 s = g ∧ u 7 s = k ∧ u 8 s = (gF S r g n).1 ∧ u 9 s = (gF S r g n).2 ∧ u 0 5 = s ∧ frm gmK gmJ τ u) (fun i _ => (S.length - i).toNat) ⟨0, by omega, rfl, fun j x hx => ?_, ?_, ?_, ?_, ?_, ?_, ?_, ?_⟩ ?_
  · have hj := (List.getElem?_eq_some_iff.mp hx).1
    have hne : ¬ (j : Int) = s := by omega
    have := s3 j x hx
    rw [h7, h6, h5, h2, h1]
    simp [ss, hne, this]
  · rw [h7, h6, h5, h2, h1]; simp [ss]
  · rw [h7, h6, h5, h2, h1]; simp [ss]
  · rw [h7, h6, h5, h2, h1]; simp [ss]
  · rw [h7, h6, h5, h2, h1]; simp [ss, gF]
  · rw [h7, h6, h5, h2, h1]; simp [ss, gF]
  · rw [h7, ss_row _ (by decide)]; exact c6
  · rw [h7, h6, h5, h2, h1]
    exact ((((frm.sk (by decide) (by decide)).tr (frm.sk (by decide) (by decide))).tr (frm.sk (by decide) (by decide))).tr (frm.sk (by decide) (by decide))).tr (frm.sk (by decide) (by decide))
  · intro bk i u hI hb
    obtain ⟨n, hn, rfl, i3, i4, i5, i6, i7, i8, i9, i10⟩ := hI
    rw [i9, es, i32_id (x := (n : Int)) (by omega) (by omega), i32_id (x := r) (by omega) (by omega)]
    refine ⟨fun hc u1 f1 => ?_, fun hc => ⟨⟨by omega, by omega⟩, fun d hd => ⟨⟨by omega, by omega⟩, ?_⟩⟩⟩
    · have hnn : n = S.length := by omega
      subst hnn
      refine h u1 ⟨?_, fun j x hx => ?_⟩ ?_
      · rw [f1, ss_at, gNew_len, hs]
        omega
      · rw [f1, ss_row _ (by decide), ss_row _ (by decide), ss_row _ (by decide), ss_row _ (by decide), ss_row _ (by decide)]
        rcases gNew_at S r g k hx with ⟨_, e⟩ | ⟨e1, e2⟩
        · exact i3 j x e
        · rw [e1, e2, ← hs]
          exact ⟨i4, i5, i6, i7, i8⟩
      · rw [f1]
        exact i10.tr (frm.s0 (by decide))
    · have hnl : n < S.length := by omega
      obtain ⟨x, hx⟩ : ∃ x, S[n]? = some x := ⟨S[n]'hnl, List.getElem?_eq_getElem hnl⟩
      have hxr := hk n x hx
      obtain ⟨x1, x2, x3, x4, x5⟩ := i3 n x hx
      have hrng := gF_rng hk r g n
      rw [x2] at hd
      rw [x1, i32_id (x := x.1) (by omega) (by omega), i32_id (x := d) (by omega) (by omega)]
      have keep : ¬ (x.1 < r ∧ -1 ≤ x.2.1 - g ∧ x.2.1 - g ≤ 1) → bk ((n : Int) + 1) u := by
        intro hno
        refine hb _ _ ⟨n + 1, by omega, by omega, i3, i4, i5, i6, ?_, ?_, i9, i10⟩ (by omega)
        · rw [i7]; conv => rhs; unfold gF
          rw [hx]; simp only; rw [if_neg hno]
        · rw [i8]; conv => rhs; unfold gF
          rw [hx]; simp only; rw [if_neg hno]
      refine ⟨fun c1 => keep (by omega), fun c1 => ⟨fun c2 => keep (by omega), fun c2 => ⟨fun c3 => keep (by omega), fun c3 => ⟨⟨by omega, by omega⟩, ⟨by omega, by omega⟩, ⟨by omega, by omega⟩, fun u1 f1 => ?_⟩⟩⟩⟩
      have hyes : x.1 < r ∧ -1 ≤ x.2.1 - g ∧ x.2.1 - g ≤ 1 := by omega
      have hne : ¬ (n : Int) = s := by omega
      have d1 : u1 0 5 = s := by rw [f1]; simp [ss, i9]
      have e8 : u1 8 = u 8 := by rw [f1, ss_row _ (by decide)]
      rw [d1, es, e8, i7, x4, i32_id (x := x.2.2.2.1) (by omega) (by omega), i32_id (x := (gF S r g n).1) (by omega) (by omega)]
      rw [i8, x5] at f1
      have done : ∀ (v : Int) (u2 : St), v = max (gF S r g n).1 (x.2.2.2.1 + 1) → u2 = ss u1 8 s v → bk ((n : Int) + 1) u2 := by
        intro v u2 hv f2
        refine hb _ _ ⟨n + 1, by omega, by omega, fun j y hy => ?_, ?_, ?_, ?_, ?_, ?_, ?_, ?_⟩ (by omega)
        · have hj := (List.getElem?_eq_some_iff.mp hy).1
          have hne2 : ¬ (j : Int) = s := by omega
          have := i3 j y hy
          rw [f2, f1]
          simp [ss, hne2, this]
        · rw [f2, f1]; simp [ss, i4]
        · rw [f2, f1]; simp [ss, i5]
        · rw [f2, f1]; simp [ss, i6]
        · rw [f2, ss_at]; conv => rhs; unfold gF
          rw [hx]; simp only; rw [if_pos hyes, hv]
        · rw [f2, ss_row _ (by decide), f1, ss_at]; conv => rhs; unfold gF
          rw [hx]; simp only; rw [if_pos hyes]
        · rw [f2, f1]; simp [ss, i9]
        · rw [f2, f1]
          exact (i10.tr (frm.sk (by decide) (by decide))).tr (frm.sk (by decide) (by decide))
      refine ⟨⟨by omega, by omega⟩, ⟨by omega, by omega⟩, fun c4 => ⟨⟨by omega, by omega⟩, ⟨by omega, by omega⟩, fun u2 f2 => done _ u2 (by omega) f2⟩, fun c4 => ⟨⟨by omega, by omega⟩, ⟨by omega, by omega⟩, fun u2 f2 => done _ u2 (by omega) f2⟩⟩
/-- what is held: kinds or none, no two side by side -/
def heldOk (N : Int → Int) : Prop := (∀ k, 0 ≤ k → k < 84 → -1 ≤ N (2 + k) ∧ N (2 + k) ≤ 5) ∧ ∀ r g, 0 ≤ r → r < 12 → 0 ≤ g → g < 6 → 0 ≤ N (2 + 7 * r + g) → N (2 + 7 * r + (g + 1)) < 0
theorem gRow_ok {N : Int → Int} {S : List GR} {r : Nat} (hN : heldOk N) (hS : gOk S) (hr : r < 12) (n : Nat) (hn : n ≤ 7) : gOk (gRow N S r n) ∧ 2 * (gRow N S r n).length ≤ 2 * S.length + n + 1 ∧ (0 < n → N (2 + 7 * r + (n - 1 : Int)) < 0 → 2 * (gRow N S r n).length ≤ 2 * S.length + n) := by
  induction n with
  | zero => exact ⟨hS, by show 2 * S.length ≤ _; omega, fun h => by omega⟩
  | succ n ih =>
    obtain ⟨i1, i2, i3⟩ := ih (by omega)
    have hb := hN.1 (7 * r + n) (by omega) (by omega)
    rw [show (2 : Int) + (7 * r + n) = 2 + 7 * r + n by omega] at hb
    unfold gRow
    have e1 : ((n + 1 : Nat) : Int) - 1 = n := by omega
    rw [e1]
    by_cases c : 0 ≤ N (2 + 7 * r + n)
    · rw [if_pos c]
      refine ⟨gNew_ok i1 (by omega) (by omega) (by omega) (by omega) c (by omega), ?_, fun _ h => by omega⟩
      rw [gNew_len]
      by_cases c0 : n = 0
      · subst c0
        show 2 * (S.length + 1) ≤ _
        omega
      · have hx : N (2 + 7 * r + ((n : Int) - 1)) < 0 := by
          by_cases c1 : 0 ≤ N (2 + 7 * r + ((n : Int) - 1))
          · have := hN.2 r ((n : Int) - 1) (by omega) (by omega) (by omega) (by omega) c1
            rw [show (n : Int) - 1 + 1 = n by omega] at this
            omega
          · omega
        have := i3 (by omega) hx
        omega
    · rw [if_neg c]
      exact ⟨i1, by omega, fun _ _ => by omega⟩
theorem gAll_ok {N : Int → Int} {gaps : Nat} (hN : heldOk N) (hg : gaps ≤ 7) (n : Nat) (hn : n ≤ 12) : gOk (gAll N gaps n) ∧ (gAll N gaps n).length ≤ 4 * n := by
  induction n with
  | zero => exact ⟨fun i x hx => by simp [gAll] at hx, Nat.le_refl _⟩
  | succ n ih =>
    obtain ⟨i1, i2⟩ := ih (by omega)
    obtain ⟨j1, j2, _⟩ := gRow_ok hN i1 (by omega : n < 12) gaps hg
    refine ⟨j1, ?_⟩
    show (gRow N (gAll N gaps n) n gaps).length ≤ _
    omega
