-- THE REFERENCE's wide: as many as the largest set none of whom is ahead of another
noncomputable def bP (p : Prop) : Bool := @decide p (Classical.propDecidable p)
theorem bP_iff {p : Prop} : bP p = true ↔ p := by
  unfold bP
  exact @decide_eq_true_iff p (Classical.propDecidable p)
theorem cB_not (B : Nat → Bool) (n : Nat) : cB B n + cB (fun i => !B i) n = n := by
  induction n with
  | zero => rfl
  | succ n ih =>
    rw [cB_s, cB_s]
    cases B n <;> simp <;> omega
theorem cB_dj {B C : Nat → Bool} (n : Nat) (h : ∀ i, i < n → B i = true → C i = false) : cB B n + cB C n = cB (fun i => B i || C i) n := by
  induction n with
  | zero => rfl
  | succ n ih =>
    have h1 := ih (fun i hi => h i (by omega))
    have h2 := h n (by omega)
    rw [cB_s, cB_s, cB_s]
    cases e : B n with
    | false => simp; omega
    | true => rw [h2 e]; simp; omega
def pth (S : List GR) (t : Int → Int) : Nat → Nat → Nat → Prop
  | 0, v, u => v = u
  | k + 1, v, u => ∃ w : Nat, w < S.length ∧ pth S t k v w ∧ t w = u
theorem pth_led {S : List GR} (hB : gB S) {t : Int → Int} (h1 : tOk S t) (d v u : Nat) (h : pth S t d v u) : v = u ∨ led S v u := by
  induction d generalizing u with
  | zero => exact Or.inl h
  | succ d ih =>
    obtain ⟨w, w1, w2, w3⟩ := h
    have hl : led S w u := by
      rcases h1 w w1 with q | ⟨x, x1, x2, x3⟩
      · omega
      · have : x = u := by omega
        rw [← this]; exact x3
    rcases ih w w2 with e | e
    · rw [e]; exact Or.inr hl
    · exact Or.inr (led_tr hB e hl)
theorem pth_cut {S : List GR} {t : Int → Int} (h2 : tInj S t) (k d v v' u : Nat) (h : pth S t k v u) (h' : pth S t (k + d) v' u) : pth S t d v' v := by
  induction k generalizing u with
  | zero =>
    have e : v = u := h
    rw [Nat.zero_add] at h'
    rw [e]; exact h'
  | succ k ih =>
    rw [show k + 1 + d = (k + d) + 1 by omega] at h'
    obtain ⟨w, w1, w2, w3⟩ := h
    obtain ⟨w', x1, x2, x3⟩ := h'
    have : w = w' := h2 w w' w1 x1 (by rw [w3, x3]) (by omega)
    rw [← this] at x2
    exact ih w w2 x2
theorem pth_ex {S : List GR} (hB : gB S) {t : Int → Int} (h1 : tOk S t) {v : Nat} (n : Nat) : ∀ u k : Nat, pth S t k v u → u < S.length → S.length - u ≤ n → ∃ u' k' : Nat, pth S t k' v u' ∧ u' < S.length ∧ t u' = -1 := by
  induction n with
  | zero => intro u k _ h1 h2; omega
  | succ n ih =>
    intro u k hp hu hn
    rcases h1 u hu with q | ⟨x, x1, x2, x3⟩
    · exact ⟨u, k, hp, hu, q⟩
    · have := (led_rng hB x3).1
      exact ih x (k + 1) ⟨u, hu, hp, x1⟩ x2 (by omega)
/-- a set is no larger than the chains are many -/
theorem weak_du {S : List GR} (hB : gB S) {t : Int → Int} (h1 : tOk S t) (h2 : tInj S t) {B : Nat → Bool} (hA : aC S B) : cB B S.length ≤ cB (fun u => bP (t (u : Int) = -1)) S.length := by
  have ex : ∀ v : Nat, ∃ u : Nat, v < S.length → ∃ k : Nat, pth S t k v u ∧ u < S.length ∧ t u = -1 := fun v => by
    by_cases c : v < S.length
    · obtain ⟨u, k, q1, q2, q3⟩ := pth_ex hB h1 (v := v) S.length v 0 rfl c (by omega)
      exact ⟨u, fun _ => ⟨k, q1, q2, q3⟩⟩
    · exact ⟨0, fun z => absurd z c⟩
  obtain ⟨f, hf⟩ := Classical.axiomOfChoice ex
  refine cB_inj f S.length (fun i hi hb => ?_) (fun i j hi hj hbi hbj he => ?_)
  · obtain ⟨k, q1, q2, q3⟩ := hf i hi
    exact ⟨q2, bP_iff.mpr q3⟩
  · obtain ⟨k, q1, q2, q3⟩ := hf i hi
    obtain ⟨l, r1, r2, r3⟩ := hf j hj
    rw [← he] at r1
    rcases Nat.le_total k l with c | c
    · obtain ⟨d, rfl⟩ : ∃ d, l = k + d := ⟨l - k, by omega⟩
      rcases pth_led hB h1 d j i (pth_cut h2 k d i j _ q1 r1) with e | e
      · exact e.symm
      · exact absurd e (hA j i hj hi hbj hbi)
    · obtain ⟨d, rfl⟩ : ∃ d, k = l + d := ⟨k - l, by omega⟩
      rcases pth_led hB h1 d i j (pth_cut h2 l d j i _ r1 q1) with e | e
      · exact e
      · exact absurd e (hA i j hi hj hbi hbj)
/-- all that holds between two stitches that are tried -/
def TI (S : List GR) (t : Int → Int) (F Z : Nat → Bool) (j : Nat) : Prop :=
  tOk S t ∧ tInj S t ∧ clo S t Z ∧ (∀ i, F i = true → i < j) ∧ (∀ a x : Nat, a < S.length → t a = x → x < j ∧ F x = false) ∧ (∀ s : Nat, s < j → F s = false → ∃ a : Nat, a < S.length ∧ t a = s) ∧ ∀ s, F s = true → ∀ b, led S b s → Z b = true
theorem TI_end {S : List GR} (hB : gB S) {t : Int → Int} {F Z : Nat → Bool} (h : TI S t F Z S.length) : wdS S (cB F S.length) := by
  obtain ⟨h1, h2, h3, h4, h5, h6, h7⟩ := h
  have hw : ∀ B, aC S B → cB B S.length ≤ cB F S.length := fun B hA => by
    have q1 := weak_du hB h1 h2 hA
    have q2 := cB_not (fun u : Nat => bP (t (u : Int) = -1)) S.length
    have q3 := cB_not F S.length
    have ex : ∀ s : Nat, ∃ a : Nat, s < S.length → F s = false → a < S.length ∧ t a = s := fun s => by
      by_cases c : s < S.length ∧ F s = false
      · obtain ⟨a, a1, a2⟩ := h6 s c.1 c.2
        exact ⟨a, fun _ _ => ⟨a1, a2⟩⟩
      · exact ⟨0, fun z z' => absurd ⟨z, z'⟩ c⟩
    obtain ⟨f, hf⟩ := Classical.axiomOfChoice ex
    have q4 : cB (fun i => !F i) S.length ≤ cB (fun u : Nat => !bP (t (u : Int) = -1)) S.length := cB_inj f S.length (fun i hi hb => by
      obtain ⟨r1, r2⟩ := hf i hi (by simpa using hb)
      refine ⟨r1, ?_⟩
      cases e : bP (t (f i : Int) = -1) with
      | false => rfl
      | true => have := bP_iff.mp e; omega) (fun i j hi hj hbi hbj he => by
      obtain ⟨r1, r2⟩ := hf i hi (by simpa using hbi)
      obtain ⟨r3, r4⟩ := hf j hj (by simpa using hbj)
      rw [he] at r2
      omega)
    omega
  refine ⟨?_, hw⟩
  obtain ⟨Y, hY⟩ : ∃ Y : Nat → Bool, ∀ s : Nat, Y s = true ↔ ∃ a : Nat, a < S.length ∧ Z a = true ∧ t a = s := ⟨fun s => bP (∃ a : Nat, a < S.length ∧ Z a = true ∧ t a = s), fun s => bP_iff⟩
  have c1 : cB Z S.length ≤ cB Y S.length := cB_inj (fun a => (t a).toNat) S.length (fun i hi hb => by
    obtain ⟨z1, z2⟩ := h3 i hi hb
    rcases h1 i hi with q | ⟨x, x1, x2, x3⟩
    · omega
    · exact ⟨by omega, (hY _).mpr ⟨i, hi, hb, by omega⟩⟩) (fun i j hi hj hbi hbj he => by
    have z1 := (h3 i hi hbi).1
    have z2 := (h3 j hj hbj).1
    have he' : (t i).toNat = (t j).toNat := he
    exact h2 i j hi hj (by omega) z1)
  have c2 := cB_dj (B := F) (C := Y) S.length (fun i hi hb => by
    cases e : Y i with
    | false => rfl
    | true =>
      obtain ⟨a, a1, a2, a3⟩ := (hY i).mp e
      have := (h5 a i a1 a3).2
      rw [hb] at this
      cases this)
  have c3 := cB_or (B := fun i => F i || Y i) (C := fun i => (F i || Y i) && !Z i) (D := Z) S.length (fun i hi hb => by
    cases e : Z i with
    | true => exact Or.inr rfl
    | false => exact Or.inl (by
        have hb' : (F i || Y i) = true := hb
        simp [hb']))
  have hA : aC S (fun i => (F i || Y i) && !Z i) := fun a b ha hb hba hbb hld => by
    rw [Bool.and_eq_true] at hba hbb
    have za : Z a = false := by simpa using hba.2
    have : Z a = true := by
      rcases Bool.or_eq_true_iff.mp hbb.1 with e | e
      · exact h7 b e a hld
      · obtain ⟨c, c1, c2, c3⟩ := (hY b).mp e
        exact (h3 c c1 c2).2 a (by rw [c3]; exact hld)
    rw [za] at this
    cases this
  have := hw _ hA
  exact ⟨_, hA, by omega⟩
theorem Mwide_ok {τ : St} {S : List GR} {Q : Int → St → Prop} (hG : GM τ S) (hB : gB S) (hl : S.length ≤ 48) (k : ∀ (w : Nat) (τ' : St), w ≤ 48 → wdS S w → frm tkK tkJ τ τ' → Q w τ') : V_M_wide τ Q := by
  unfold V_M_wide
  refine wl1 (fun i u => ∃ n : Nat, n ≤ S.length ∧ i = n ∧ frm tkK tkJ τ u ∧ ∀ a : Nat, a < n → u 21 a = -1) (fun i _ => (S.length - i).toNat) ⟨0, by omega, rfl, frm.rf, fun a ha => by omega⟩ ?_
  intro bk i u hI hb
  obtain ⟨n, hn, rfl, f, ha⟩ := hI
  have uG := GM_tk hG f
  rw [uG.1, i32_id (x := (n : Int)) (by omega) (by omega), i32_id (x := (S.length : Int)) (by omega) (by omega)]
  refine ⟨fun hc y hy => ?_, fun hc => ⟨⟨by omega, by omega⟩, fun v hv => hb _ _ ⟨n + 1, by omega, by omega, f.tr (by rw [hv]; exact frm.sk (by decide) (by decide)), fun a ha' => ?_⟩ (by omega)⟩⟩
  rotate_left
  · rw [hv, ss_self]
    by_cases c : a = n
    · rw [c]; simp
    · have : ¬ (a : Int) = (n : Int) := by omega
      simp only [if_neg this]
      exact ha a (by omega)
  · refine wl2 (fun i y v => ∃ (j : Nat) (F Z : Nat → Bool), j ≤ S.length ∧ i = j ∧ y = S.length - j + (cB F j : Nat) ∧ frm tkK tkJ τ v ∧ TI S (v 21) F Z j) (fun i _ _ => (S.length - i).toNat) ⟨0, fun _ => false, fun _ => false, by omega, rfl, ?_, f, ?_⟩ ?_
    · rw [hy]
      show (S.length : Int) = S.length - (0 : Nat) + (0 : Nat)
      omega
    · have e : ∀ a : Nat, a < S.length → u 21 a = -1 := fun a h => ha a (by omega)
      exact ⟨fun a h => Or.inl (e a h), fun a b h h' _ h0 => by rw [e a h] at h0; omega, fun a _ h => (by cases h), fun i h => (by cases h), fun a x h hx => by rw [e a h] at hx; omega, fun s h => by omega, fun s h => by cases h⟩
    · intro bk2 i y v hI2 hb2
      obtain ⟨j, F, Z, hj, rfl, rfl, vf, hT⟩ := hI2
      have vG := GM_tk hG vf
      have hcF := cB_le F j
      rw [vG.1, i32_id (x := (j : Int)) (by omega) (by omega), i32_id (x := (S.length : Int)) (by omega) (by omega)]
      refine ⟨fun hd => ?_, fun hd w hw => ⟨49, by omega, ?_⟩⟩
      · have : j = S.length := by omega
        subst this
        rw [show (S.length : Int) - S.length + (cB F S.length : Nat) = (cB F S.length : Nat) by omega]
        exact k _ v (by omega) (TI_end hB hT) vf
      · obtain ⟨h1, h2, h3, h4, h5, h6, h7⟩ := hT
        have wf : frm tkK tkJ τ w := vf.tr (by rw [hw]; exact frm.s0 (by decide))
        have w21 : w 21 = v 21 := by rw [hw, ss_row _ (by decide)]
        have w26 : w 0 26 = ((0 : Nat) : Int) := by rw [hw, ss_at]; rfl
        have hFj : F j = false := by
          cases c : F j with
          | false => rfl
          | true => have := h4 j c; omega
        refine Mtakes_ok hB hl Z 49 (m := 0) (GM_tk hG wf) (by omega) (by decide) w26 ?_ (by rw [w21]; exact h1) (by rw [w21]; exact h2) (by rw [w21]; exact h3) (fun a ha' hax => ?_) (fun x m x1 x2 x3 x4 x5 => ⟨fun _ => ?_, fun z => absurd z00 z⟩) (fun x m x1 x2 x3 x4 => ⟨fun z => absurd z n10, fun _ => ?_⟩)
        · have := cB_le (fun a => !(0 : Nat).testBit a) S.length
          unfold uns
          omega
        · rw [w21] at hax
          have := (h5 a j ha' hax).1
          omega
        · obtain ⟨f1, f2, f3⟩ := x5
          rw [w21] at f3
          have hF1 : cB (fun i => F i || i == j) (j + 1) = cB F j + 1 := by
            rw [cB_s, cB_congr (C := F) j (fun i hi => by
              have : ¬ i = j := by omega
              simp [this])]
            simp
          refine hb2 _ _ _ ⟨j + 1, fun i => F i || i == j, fun a => Z a || m.testBit a, by omega, by omega, by rw [hF1]; omega, wf.tr x3, ?_⟩ (by omega)
          rw [x4, w21]
          refine ⟨h1, h2, fun a ha' hz => ?_, fun i hi => ?_, fun a x ha' hax => ?_, fun s hs hF => ?_, fun s hF b hld => ?_⟩
          · by_cases c : Z a = true
            · obtain ⟨z1, z2⟩ := h3 a ha' c
              exact ⟨z1, fun b hb' => Bool.or_eq_true_iff.mpr (Or.inl (z2 b hb'))⟩
            · have hm : m.testBit a = true := by
                rcases Bool.or_eq_true_iff.mp hz with e | e
                · exact absurd e c
                · exact e
              obtain ⟨z1, z2, z3⟩ := f3 a hm (Nat.zero_testBit a)
              exact ⟨z2, fun b hb' => Bool.or_eq_true_iff.mpr (Or.inr (z3 b hb'))⟩
          · rcases Bool.or_eq_true_iff.mp hi with e | e
            · have := h4 i e; omega
            · have : i = j := by simpa using e
              omega
          · obtain ⟨q1, q2⟩ := h5 a x ha' hax
            refine ⟨by omega, ?_⟩
            have : ¬ x = j := by omega
            simp [q2, this]
          · have q1 : F s = false ∧ ¬ s = j := by simpa using hF
            exact h6 s (by omega) q1.1
          · rcases Bool.or_eq_true_iff.mp hF with e | e
            · exact Bool.or_eq_true_iff.mpr (Or.inl (h7 s e b hld))
            · have : s = j := by simpa using e
              rw [this] at hld
              exact Bool.or_eq_true_iff.mpr (Or.inr (f2 b hld))
        · rw [w21] at x4
          obtain ⟨C0, C1, ⟨a', a1, a2, a3, a4⟩, C3, C5, C6, C7, -⟩ := x4
          have z0 : ∀ a, (0 : Nat).testBit a = false := fun a => Nat.zero_testBit a
          refine hb2 _ _ _ ⟨j + 1, F, Z, by omega, by omega, ?_, wf.tr x3, ?_⟩ (by omega)
          · rw [cB_s, hFj]
            simp
            omega
          · refine ⟨C0, fun a b ha' hb' he h0 => ?_, fun a ha' hz => ?_, fun i hi => ?_, fun a y ha' hay => ?_, fun s hs hF => ?_, h7⟩
            · refine Classical.byContradiction (fun c => ?_)
              have q := C3 a b ha' hb' c he h0
              exact c ((a4 a ha' (z0 a) q).trans (a4 b hb' (z0 b) (by rw [← he, q])).symm)
            · rw [C7 a ha' hz]
              exact h3 a ha' hz
            · have := h4 i hi; omega
            · rcases C6 a ha' (by omega) with q | ⟨b0, q1, q2⟩
              · have : y = j := by omega
                rw [this]
                exact ⟨by omega, hFj⟩
              · obtain ⟨r1, r2⟩ := h5 b0 y q1 (by rw [q2, hay])
                exact ⟨by omega, r2⟩
            · by_cases c : s = j
              · rw [c]; exact ⟨a', a1, a3⟩
              · exact C5 s (by omega) (h6 s (by omega) hF)
theorem wdS_uq {S : List GR} {w w' : Nat} (h : wdS S w) (h' : wdS S w') : w = w' := by
  obtain ⟨⟨B, b1, b2⟩, b3⟩ := h
  obtain ⟨⟨C, c1, c2⟩, c3⟩ := h'
  have := b3 C c1
  have := c3 B b1
  omega
