-- TURNS
theorem pig : ∀ (m : Nat) (f : Nat → Nat), (∀ i, i < m → f i < m) → (∀ i j, i < j → j < m → f i ≠ f j) → ∀ s, s < m → ∃ i, i < m ∧ f i = s := by
  intro m
  induction m with
  | zero => intro f _ _ s hs; omega
  | succ m ih =>
    intro f hf hi s hs
    by_cases c : ∃ i, i < m ∧ f i = m
    · obtain ⟨i, hi1, hi2⟩ := c
      have hlast : f m ≠ m := fun z => hi i m hi1 (by omega) (by rw [hi2, z])
      by_cases cs : s = m
      · exact ⟨i, by omega, by rw [hi2, cs]⟩
      · by_cases cl : s = f m
        · exact ⟨m, by omega, cl.symm⟩
        · obtain ⟨k, k1, k2⟩ := ih (fun j => if j = i then f m else f j) (fun j hj => by
            split
            · have := hf m (by omega); omega
            · have := hf j (by omega)
              have hne : f j ≠ m := fun z => by
                rename_i hji
                rcases Nat.lt_or_ge j i with q | q
                · exact hi j i q (by omega) (by rw [z, hi2])
                · exact hi i j (by omega) (by omega) (by rw [z, hi2])
              omega) (fun j k hjk hk => by
            split
            · rename_i e1
              split
              · omega
              · exact fun z => hi k m (by omega) (by omega) z.symm
            · split
              · exact fun z => hi j m (by omega) (by omega) z
              · exact hi j k hjk (by omega)) s (by omega)
          by_cases ck : k = i
          · simp only [ck, if_true] at k2
            exact absurd k2.symm cl
          · simp only [ck, if_false] at k2
            exact ⟨k, by omega, k2⟩
    · have low : ∀ i, i < m → f i < m := fun i hi' => by
        have := hf i (by omega)
        have : f i ≠ m := fun z => c ⟨i, hi', z⟩
        omega
      by_cases cm : f m = m
      · by_cases cs : s = m
        · exact ⟨m, by omega, by rw [cm, cs]⟩
        · obtain ⟨k, k1, k2⟩ := ih f low (fun i j a b => hi i j a (by omega)) s (by omega)
          exact ⟨k, by omega, k2⟩
      · exfalso
        have hfm : f m < m := by have := hf m (by omega); omega
        obtain ⟨k, k1, k2⟩ := ih f low (fun i j a b => hi i j a (by omega)) (f m) hfm
        exact hi k m k1 (by omega) k2
def itF (P : Int → Int) (t : Int) : Nat → Int
  | 0 => t
  | n + 1 => P (itF P t n)
def prm (P : Int → Int) : Prop := (∀ t, 0 ≤ t → t < 16 → 0 ≤ P t ∧ P t < 16) ∧ ∀ s t, 0 ≤ s → s < 16 → 0 ≤ t → t < 16 → P s = P t → s = t
theorem itF_rng {P : Int → Int} (h : prm P) {t : Int} (h0 : 0 ≤ t) (h1 : t < 16) (n : Nat) : 0 ≤ itF P t n ∧ itF P t n < 16 := by
  induction n with
  | zero => exact ⟨h0, h1⟩
  | succ n ih => exact h.1 _ ih.1 ih.2
theorem itF_can {P : Int → Int} (h : prm P) {t : Int} (h0 : 0 ≤ t) (h1 : t < 16) (i d : Nat) (e : itF P t (i + d) = itF P t i) : itF P t d = t := by
  induction i with
  | zero => rw [Nat.zero_add] at e; exact e
  | succ i ih =>
    apply ih
    have a := itF_rng h h0 h1 (i + d)
    have b := itF_rng h h0 h1 i
    refine h.2 _ _ a.1 a.2 b.1 b.2 ?_
    have e' : itF P t (i + d + 1) = itF P t (i + 1) := by rw [show i + d + 1 = i + 1 + d by omega]; exact e
    exact e'
theorem least_n {p : Nat → Prop} (n : Nat) (h : p n) : ∃ m, m ≤ n ∧ p m ∧ ∀ k, k < m → ¬ p k := by
  induction n using Nat.strongRecOn with
  | _ n ih =>
    by_cases c : ∃ k, k < n ∧ p k
    · obtain ⟨k, k1, k2⟩ := c
      obtain ⟨m, m1, m2, m3⟩ := ih k k1 k2
      exact ⟨m, by omega, m2, m3⟩
    · exact ⟨n, Nat.le_refl _, h, fun k hk hp => c ⟨k, hk, hp⟩⟩
def isT (P : Int → Int) (t : Int) (n : Nat) : Prop := 1 ≤ n ∧ n ≤ 16 ∧ itF P t n = t ∧ ∀ k, 1 ≤ k → k < n → itF P t k ≠ t
theorem cyc {P : Int → Int} (h : prm P) {t : Int} (h0 : 0 ≤ t) (h1 : t < 16) : ∃ n, isT P t n := by
  have ex : ∃ n, 1 ≤ n ∧ n ≤ 16 ∧ itF P t n = t := by
    by_cases c : ∃ n, 1 ≤ n ∧ n ≤ 16 ∧ itF P t n = t
    · exact c
    · exfalso
      have no : ∀ i j, i < j → j ≤ 16 → itF P t i ≠ itF P t j := fun i j hij hj e => c ⟨j - i, by omega, by omega, itF_can h h0 h1 i (j - i) (by rw [show i + (j - i) = j by omega]; exact e.symm)⟩
      have r16 := itF_rng h h0 h1 16
      obtain ⟨i, i1, i2⟩ := pig 16 (fun i => (itF P t i).toNat) (fun i _ => by
        have := itF_rng h h0 h1 i
        show (itF P t i).toNat < 16
        omega) (fun i j hij hj e => by
        have a := itF_rng h h0 h1 i
        have b := itF_rng h h0 h1 j
        have e' : (itF P t i).toNat = (itF P t j).toNat := e
        exact no i j hij (by omega) (by omega)) (itF P t 16).toNat (by omega)
      have a := itF_rng h h0 h1 i
      have i2' : (itF P t i).toNat = (itF P t 16).toNat := i2
      exact no i 16 (by omega) (by omega) (by omega)
  obtain ⟨n, n1, n2, n3⟩ := ex
  obtain ⟨m, m1, m2, m3⟩ := least_n (p := fun n => 1 ≤ n ∧ itF P t n = t) n ⟨n1, n3⟩
  exact ⟨m, m2.1, by omega, m2.2, fun k k1 k2 e => m3 k k2 ⟨k1, e⟩⟩
theorem isT_uq {P : Int → Int} {t : Int} {n m : Nat} (h1 : isT P t n) (h2 : isT P t m) : n = m := by
  rcases Nat.lt_trichotomy n m with q | q | q
  · exact absurd h1.2.2.1 (h2.2.2.2 n h1.1 q)
  · exact q
  · exact absurd h2.2.2.1 (h1.2.2.2 m h2.1 q)
theorem CW_prm {σ : St} {o : Nat} {w : AW} (h : CW σ o w) : prm (σ (o + 2)) ∧ ∀ t, 0 ≤ t → t < 16 → 0 ≤ σ (o + 2) t ∧ σ (o + 2) t < 16 ∧ w.1 (σ (o + 2) t) = t := by
  refine ⟨⟨fun t a b => ?_, fun s t a b c d e => ?_⟩, h.2.1⟩
  · have := h.2.1 t a b
    exact ⟨this.1, this.2.1⟩
  · have x := h.2.1 s a b
    have y := h.2.1 t c d
    rw [← x.2.2, ← y.2.2, e]
theorem turnsOf_ok {σ : St} {o : Nat} {t : Int} {n : Nat} {Q : Int → St → Prop} (h : prm (σ (o + 2))) (h0 : 0 ≤ t) (h1 : t < 16) (hT : isT (σ (o + 2)) t n) (k : Q n σ) : V_Weave_turnsOf o σ t Q := by
  unfold V_Weave_turnsOf
  refine wl2 (fun x3 x2 u => u = σ ∧ ∃ m : Nat, m < n ∧ x3 = m + 1 ∧ x2 = itF (σ (o + 2)) t m) (fun x3 _ _ => (n + 1 - x3).toNat) ⟨rfl, 0, by have := hT.1; omega, rfl, rfl⟩ ?_
  intro bk x3 x2 u hI hb
  obtain ⟨rfl, m, hm, rfl, rfl⟩ := hI
  have h16 := hT.2.1
  have hr := itF_rng h h0 h1 m
  have hr' := itF_rng h h0 h1 (m + 1)
  rw [i32_id (x := (m : Int) + 1) (by omega) (by omega), i32_id (x := itF (u (o + 2)) t m) (by omega) (by omega), i32_id (x := t) (by omega) (by omega)]
  refine ⟨fun hc => by omega, fun hc => ⟨hr, fun y hy => ?_⟩⟩
  have hy' : y = itF (u (o + 2)) t (m + 1) := hy
  rw [hy', i32_id (x := itF (u (o + 2)) t (m + 1)) (by omega) (by omega)]
  refine ⟨fun hc => hb _ _ _ ⟨rfl, m + 1, ?_, by omega, rfl⟩ (by omega), fun hc => ?_⟩
  · by_cases c : m + 1 = n
    · rw [c] at hc; exact absurd hT.2.2.1 hc
    · omega
  · have : m + 1 = n := by
      by_cases c : m + 1 = n
      · exact c
      · exact absurd hc (hT.2.2.2 (m + 1) (by omega) (by omega))
    rw [← this] at k
    exact k
theorem MroundsOf_ok {τ : St} {w : AW} {P : Int → Int} {t : Int} {n : Nat} {Q : Int → St → Prop} (hM : MW τ w) (hw : awWf w) (h : prm P) (hP : ∀ t, 0 ≤ t → t < 16 → w.1 (P t) = t) (h0 : 0 ≤ t) (h1 : t < 16) (hT : isT P t n) (k : Q n τ) : V_M_roundsOf τ t Q := by
  unfold V_M_roundsOf
  have rt : i32 t = t := i32_id (by omega) (by omega)
  have hp := h.1 t h0 h1
  refine MplaceOf_ok hM hw rt hp.1 hp.2 (hP t h0 h1) ?_
  refine wl2 (fun x3 x2 u => u = τ ∧ ∃ m : Nat, 1 ≤ m ∧ m ≤ n ∧ x2 = m ∧ x3 = itF P t m) (fun _ x2 _ => (n - x2).toNat) ⟨rfl, 1, by omega, hT.1, rfl, rfl⟩ ?_
  intro bk x3 x2 u hI hb
  obtain ⟨rfl, m, hm1, hm, rfl, rfl⟩ := hI
  have hr := itF_rng h h0 h1 m
  have hr' := itF_rng h h0 h1 (m + 1)
  rw [i32_id (x := itF P t m) (by omega) (by omega), rt]
  refine ⟨fun hc => ?_, fun hc => ?_⟩
  · have : m = n := by
      by_cases c : m = n
      · exact c
      · exact absurd hc (hT.2.2.2 m hm1 (by omega))
    rw [this]
    exact k
  · have hlt : m < n := by
      by_cases c : m = n
      · rw [c] at hc; exact absurd hT.2.2.1 hc
      · omega
    exact MplaceOf_ok hM hw (i32_id (by omega) (by omega)) hr'.1 hr'.2 (hP _ hr.1 hr.2) (hb _ _ _ ⟨rfl, m + 1, by omega, by omega, by omega, rfl⟩ (by omega))
-- common multiples
theorem ldv_nn {a b : Int} (ha : 0 ≤ a) (ha2 : a ≤ 9223372036854775807) (hb : 0 < b) (hb2 : b ≤ 9223372036854775807) : ldv a b = a / b := by
  unfold ldv
  have h1 : (Int64.ofInt a).toInt = a := i64_id (by omega) ha2
  have h2 : (Int64.ofInt b).toInt = b := i64_id (by omega) hb2
  rw [Int64.toInt_div_of_ne_right _ _ (by
    intro h
    have h3 : (Int64.ofInt b).toInt = -1 := by rw [h]; rfl
    omega), h1, h2, Int.tdiv_eq_ediv_of_nonneg ha]
theorem lrm_nn {a b : Int} (ha : 0 ≤ a) (ha2 : a ≤ 9223372036854775807) (hb : 0 < b) (hb2 : b ≤ 9223372036854775807) : lrm a b = a % b := by
  have h0 := ldv_nn ha ha2 hb hb2
  unfold ldv at h0
  have hq : Int64.ofInt a / Int64.ofInt b = Int64.ofInt (a / b) := by
    rw [← h0, Int64.ofInt_toInt]
  unfold lrm
  rw [hq, ← Int64.ofInt_mul, ← Int64.ofInt_sub]
  have e : a - a / b * b = a % b := by
    have := Int.mul_ediv_add_emod a b
    rw [Int.mul_comm] at this
    omega
  rw [e]
  have := Int.emod_nonneg a (show b ≠ 0 by omega)
  have := Int.emod_lt_of_pos a hb
  exact i64_id (by omega) (by omega)
theorem lcm_least {L r x : Nat} (hL : 0 < L) (hx : 0 < x) (h : r ∣ L * x) : Nat.lcm L r ≤ L * x :=
  Nat.le_of_dvd (Nat.mul_pos hL hx) (Nat.lcm_dvd (Nat.dvd_mul_right L x) h)
theorem lcmC_ok {σ : St} {L r : Nat} {Q : Int → St → Prop} (hL : 0 < L) (hL2 : L ≤ 720720) (hr : 1 ≤ r) (hr2 : r ≤ 16) (k : Q ((Nat.lcm L r : Nat) : Int) σ) : V_Weave_leastCommonMultiple σ L r Q := by
  obtain ⟨q, hq⟩ : ∃ q, Nat.lcm L r = L * q := Nat.dvd_lcm_left L r
  have hq0 : 0 < q := by
    rcases Nat.eq_zero_or_pos q with z | z
    · rw [z, Nat.mul_zero] at hq
      have := Nat.lcm_pos hL (show 0 < r by omega)
      omega
    · exact z
  have hqr : q ≤ r := by
    have h1 : Nat.lcm L r ≤ L * r := lcm_least hL (by omega) (Nat.dvd_mul_left r L)
    rw [hq] at h1
    exact Nat.le_of_mul_le_mul_left h1 hL
  unfold V_Weave_leastCommonMultiple
  refine wl1 (fun i u => u = σ ∧ ∃ x : Nat, 1 ≤ x ∧ x ≤ q ∧ i = x) (fun i _ => (q - i).toNat) ⟨rfl, 1, by omega, hq0, rfl⟩ ?_
  intro bk i u hI hb
  obtain ⟨rfl, x, x1, x2, rfl⟩ := hI
  have hb1 : L * x ≤ 720720 * 16 := Nat.mul_le_mul hL2 (by omega)
  have e : (L : Int) * (x : Int) = ((L * x : Nat) : Int) := by rw [Int.natCast_mul]
  have e2 : (L : Int) * (r : Int) = ((L * r : Nat) : Int) := by rw [Int.natCast_mul]
  rw [i32_id (x := (x : Int)) (by omega) (by omega), i32_id (x := (r : Int)) (by omega) (by omega), e, e2]
  refine ⟨fun hc => ?_, fun hc => ?_⟩
  · have : r = q := by omega
    rw [this, ← hq]
    exact k
  · rw [lrm_nn (by omega) (by omega) (by omega) (by omega), i64_id (x := (r : Int)) (by omega) (by omega), ← Int.natCast_emod, i64_id (x := ((L * x % r : Nat) : Int)) (by omega) (by have := Nat.mod_lt (L * x) (show r > 0 by omega); omega)]
    refine ⟨by omega, fun hd => hb _ _ ⟨rfl, x + 1, by omega, ?_, by omega⟩ ?_, fun hd => ?_⟩
    · by_cases c : x = q
      · exfalso
        apply hd
        rw [c, ← hq, Nat.mod_eq_zero_of_dvd (Nat.dvd_lcm_right L r)]
        rfl
      · omega
    · by_cases c : x = q
      · exfalso
        apply hd
        rw [c, ← hq, Nat.mod_eq_zero_of_dvd (Nat.dvd_lcm_right L r)]
        rfl
      · omega
    · have hdv : r ∣ L * x := Nat.dvd_of_mod_eq_zero (by omega)
      have := lcm_least hL (by omega) hdv
      rw [hq] at this
      have : q ≤ x := Nat.le_of_mul_le_mul_left this hL
      have : x = q := by omega
      rw [this, ← hq]
      exact k
theorem Mdivisor_ok {τ : St} {a b : Nat} {Q : Int → St → Prop} (ha : a ≤ 1000000) (hb : b ≤ 1000000) (k : Q ((Nat.gcd a b : Nat) : Int) τ) : V_M_divisor τ a b Q := by
  unfold V_M_divisor
  refine wl2 (fun x y u => u = τ ∧ ∃ m n : Nat, x = m ∧ y = n ∧ m ≤ 1000000 ∧ n ≤ 1000000 ∧ Nat.gcd n m = Nat.gcd a b) (fun x _ _ => x.toNat) ⟨rfl, b, a, rfl, rfl, hb, ha, rfl⟩ ?_
  intro bk x y u hI hbk
  obtain ⟨rfl, m, n, rfl, rfl, h1, h2, h3⟩ := hI
  rw [i64_id (x := (m : Int)) (by omega) (by omega)]
  refine ⟨fun hc => ?_, fun hc => ⟨hc, fun z hz => ?_⟩⟩
  · have : m = 0 := by omega
    rw [this, Nat.gcd_zero_right] at h3
    rw [h3]
    exact k
  · rw [lrm_nn (by omega) (by omega) (by omega) (by omega), ← Int.natCast_emod] at hz
    have hlt := Nat.mod_lt n (show m > 0 by omega)
    refine hbk _ _ _ ⟨rfl, n % m, m, hz, rfl, by omega, h1, ?_⟩ ?_
    · rw [← h3, Nat.gcd_comm m (n % m), ← Nat.gcd_rec m n, Nat.gcd_comm]
    · rw [hz]; omega
def lcF (tf : Int → Nat) : Nat → Nat
  | 0 => 1
  | n + 1 => Nat.lcm (lcF tf n) (tf n)
theorem dv16 {r : Nat} (h1 : 1 ≤ r) (h2 : r ≤ 16) : r ∣ 720720 := by
  have : r = 1 ∨ r = 2 ∨ r = 3 ∨ r = 4 ∨ r = 5 ∨ r = 6 ∨ r = 7 ∨ r = 8 ∨ r = 9 ∨ r = 10 ∨ r = 11 ∨ r = 12 ∨ r = 13 ∨ r = 14 ∨ r = 15 ∨ r = 16 := by omega
  rcases this with rfl | rfl | rfl | rfl | rfl | rfl | rfl | rfl | rfl | rfl | rfl | rfl | rfl | rfl | rfl | rfl <;> decide
theorem lcF_ok {tf : Int → Nat} (n : Nat) (h : ∀ i : Nat, i < n → 1 ≤ tf i ∧ tf i ≤ 16) : lcF tf n ∣ 720720 ∧ 0 < lcF tf n ∧ lcF tf n ≤ 720720 := by
  induction n with
  | zero =>
    show (1 : Nat) ∣ 720720 ∧ 0 < 1 ∧ (1 : Nat) ≤ 720720
    decide
  | succ n ih =>
    obtain ⟨i1, i2, i3⟩ := ih (fun i hi => h i (by omega))
    have hn := h n (by omega)
    have d : lcF tf (n + 1) ∣ 720720 := Nat.lcm_dvd i1 (dv16 hn.1 hn.2)
    exact ⟨d, Nat.lcm_pos i2 (by omega), Nat.le_of_dvd (by decide) d⟩
theorem commonTurns_ok {σ : St} {o : Nat} {tf : Int → Nat} {Q : Int → St → Prop} (h : prm (σ (o + 2))) (hT : ∀ t, 0 ≤ t → t < 16 → isT (σ (o + 2)) t (tf t)) (k : Q ((lcF tf 16 : Nat) : Int) σ) : V_Weave_commonTurns o σ Q := by
  unfold V_Weave_commonTurns
  refine wl2 (fun i y u => u = σ ∧ ∃ n : Nat, n ≤ 16 ∧ i = n ∧ y = (lcF tf n : Nat)) (fun i _ _ => (16 - i).toNat) ⟨rfl, 0, by omega, rfl, rfl⟩ ?_
  intro bk i y u hI hb
  obtain ⟨rfl, n, hn, rfl, rfl⟩ := hI
  rw [i32_id (x := (n : Int)) (by omega) (by omega)]
  refine ⟨fun hc => ?_, fun hc => ?_⟩
  · have : n = 16 := by omega
    rw [this]
    exact k
  · have ht := hT n (by omega) hc
    obtain ⟨l1, l2, l3⟩ := lcF_ok (tf := tf) n (fun i hi => by have := hT i (by omega) (by omega); exact ⟨this.1, this.2.1⟩)
    exact turnsOf_ok h (by omega) hc ht (lcmC_ok l2 l3 ht.1 ht.2.1 (hb _ _ _ ⟨rfl, n + 1, by omega, by omega, rfl⟩ (by omega)))
theorem turns_ex {P : Int → Int} (h : prm P) : ∃ tf : Int → Nat, ∀ t, 0 ≤ t → t < 16 → isT P t (tf t) := by
  refine ⟨fun t => if c : 0 ≤ t ∧ t < 16 then Classical.choose (cyc h c.1 c.2) else 1, fun t a b => ?_⟩
  have c : 0 ≤ t ∧ t < 16 := ⟨a, b⟩
  simp only [c, and_self, dif_pos]
  exact Classical.choose_spec (cyc h c.1 c.2)
theorem op_rounds {σ τ : St} (hR : Rel σ τ) : V_P_rounds σ (fun r σ' => V_M_rounds τ (fun r' τ' => i64 r = i64 r' ∧ Rel σ' τ')) := by
  obtain ⟨pl1, pl2, pl3⟩ := hR.pl
  obtain ⟨l1, l2, l3⟩ := len_GC hR
  have p1 := hR.2.1
  unfold V_P_rounds
  rw [l1]
  refine think_ok hR (by omega) (by omega) (fun s hs c f => ?_)
  obtain ⟨c1, c2⟩ := CW_prm c
  obtain ⟨tf, hT⟩ := turns_ex c1
  refine commonTurns_ok c1 hT ?_
  unfold V_M_rounds
  rw [l2]
  refine Mfirst' hR (by omega) (by omega) (fun t m g => ?_)
  obtain ⟨wg, wl⟩ := alA_g p1 ((stS (τ 1)).length : Int).toNat (by omega)
  have wb := alA_b p1 ((stS (τ 1)).length : Int).toNat (by omega)
  obtain ⟨N2, hN2⟩ : ∃ n : Nat, 2 * τ 1 0 = n := ⟨(2 * τ 1 0).toNat, by omega⟩
  have t1 : t 1 = τ 1 := g.1 1 (by decide) (by decide)
  -- beyond the pairs each is at home
  have one : ∀ n : Nat, N2 ≤ n → n < 16 → tf n = 1 := by
    intro n a b
    have h1 := c2 n (by omega) (by omega)
    have h2 := wb.2.1 n (by omega)
    have e : s 43 n = n := wg.1.2 _ _ h1.1 h1.2.1 (by omega) (by omega) (by rw [h1.2.2, h2])
    refine isT_uq (hT n (by omega) (by omega)) ⟨by decide, by decide, ?_, fun k k1 k2 => by omega⟩
    exact e
  have same : ∀ d : Nat, N2 + d ≤ 16 → lcF tf (N2 + d) = lcF tf N2 := by
    intro d
    induction d with
    | zero => intro _; rfl
    | succ d ih =>
      intro hd
      show Nat.lcm (lcF tf (N2 + d)) (tf ((N2 + d : Nat) : Int)) = _
      rw [one (N2 + d) (by omega) (by omega), Nat.lcm_one_right]
      exact ih (by omega)
  have h16 : lcF tf 16 = lcF tf N2 := by
    have := same (16 - N2) (by omega)
    rw [show N2 + (16 - N2) = 16 by omega] at this
    exact this
  refine wl2 (fun i y u => u = t ∧ ∃ n : Nat, n ≤ N2 ∧ i = n ∧ y = (lcF tf n : Nat)) (fun i _ _ => (N2 - i).toNat) ⟨rfl, 0, by omega, rfl, rfl⟩ ?_
  intro bk i y u hI hb
  obtain ⟨rfl, n, hn, rfl, rfl⟩ := hI
  dsimp only [V_M_threads]
  rw [t1, hN2, i32_id (x := (n : Int)) (by omega) (by omega), i32_id (x := (N2 : Int)) (by omega) (by omega)]
  refine ⟨fun hc => ?_, fun hc => ?_⟩
  · have : n = N2 := by omega
    subst this
    exact ⟨by rw [h16], hs.fm (mw_sc g)⟩
  · have ht := hT n (by omega) (by omega)
    obtain ⟨d1, d2, d3⟩ := lcF_ok (tf := tf) n (fun i hi => by have := hT i (by omega) (by omega); exact ⟨this.1, this.2.1⟩)
    refine MroundsOf_ok m wg.1 c1 (fun t a b => (c2 t a b).2.2) (by omega) (by omega) ht (fun x hx => ?_)
    have hx' : x = ((tf n : Nat) : Int) := by
      rw [hx]
      exact i32_id (by omega) (by have := ht.2.1; omega)
    rw [hx']
    have h16' := ht.2.1
    refine Mdivisor_ok (by omega) (by omega) ?_
    have hg : 0 < Nat.gcd (lcF tf n) (tf n) := Nat.gcd_pos_of_pos_left _ d2
    have hg2 : Nat.gcd (lcF tf n) (tf n) ≤ lcF tf n := Nat.gcd_le_left _ d2
    refine ⟨by rw [i64_id (by omega) (by omega)]; omega, fun z hz => hb _ _ _ ⟨rfl, n + 1, by omega, by omega, ?_⟩ (by omega)⟩
    rw [hz, ldv_nn (by omega) (by omega) (by omega) (by omega), ← Int.natCast_ediv, ← Int.natCast_mul]
    congr 1
    show _ = Nat.lcm (lcF tf n) (tf n)
    unfold Nat.lcm
    obtain ⟨a, ha⟩ := Nat.gcd_dvd_left (lcF tf n) (tf n)
    obtain ⟨G, hG⟩ : ∃ G, G = Nat.gcd (lcF tf n) (tf n) := ⟨_, rfl⟩
    rw [← hG] at ha hg ⊢
    rw [ha, Nat.mul_div_cancel_left _ hg, Nat.mul_assoc, Nat.mul_div_cancel_left _ hg]
