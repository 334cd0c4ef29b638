-- ORDERS: all states
def gtL (c : Nat → Nat) (a b d e : Int) : Prop := a < c 0 ∨ ((c 0 : Int) = a ∧ (b < c 1 ∨ ((c 1 : Int) = b ∧ (d < c 2 ∨ ((c 2 : Int) = d ∧ e < c 3)))))
def RI (S : List GR) (u : St) (a b d e : Int) : Prop := ∀ D, lpre S D → gtL (dc S D) a b d e → u 24 (stOf S (stD S) D : Nat) = (wyD S D : Nat)
theorem RI_re {S : List GR} {u : St} {a b d e a' b' d' e' : Int} (h : RI S u a b d e) (hg : ∀ c : Nat → Nat, (∀ l, c l ≤ lc S l S.length) → gtL c a' b' d' e' → gtL c a b d e) : RI S u a' b' d' e' := fun D hD hq => h D hD (hg _ (fun l => dc_le S D l) hq)
theorem dc_add {S : List GR} {D s : Nat} (hs : s < S.length) (h : D.testBit s = false) (l : Nat) : dc S (D ||| 2 ^ s) l = dc S D l + (if lnS S s = l then 1 else 0) := by
  have key : ∀ i, i ≠ s → (D ||| 2 ^ s).testBit i = D.testBit i := fun i hn => by
    have := or_bit D s i
    cases w : D.testBit i with
    | true => exact this.mpr (Or.inl w)
    | false =>
      cases w' : (D ||| 2 ^ s).testBit i with
      | false => rfl
      | true =>
        rcases this.mp w' with q | q
        · rw [w] at q; cases q
        · exact absurd q hn
  unfold dc
  by_cases c : lnS S s = l
  · rw [if_pos c]
    refine cB_add S.length hs ?_ ?_ (fun i _ hn => by rw [key i hn])
    · rw [(or_bit D s s).mpr (Or.inr rfl), lnB_iff.mpr c]
      rfl
    · rw [h]
      rfl
  · rw [if_neg c, Nat.add_zero]
    refine cB_congr _ (fun i _ => ?_)
    by_cases e : i = s
    · rw [e]
      have : lnB S l s = false := by
        cases w : lnB S l s with
        | false => rfl
        | true => exact absurd (lnB_iff.mp w) c
      rw [this, Bool.and_false, Bool.and_false]
    · rw [key i e]
def cv (a b d e : Nat) : Nat → Nat
  | 0 => a
  | 1 => b
  | 2 => d
  | _ => e
theorem RI_step {S : List GR} {u v : St} {a b d e D : Nat} (hO : gOk S) (hl : S.length ≤ 20) (ha : a ≤ lc S 0 S.length) (hb : b ≤ lc S 1 S.length) (hd : d ≤ lc S 2 S.length) (he : e ≤ lc S 3 S.length) (h : RI S u a b d e) (hD : isD S (cv a b d e) D) (hv : v = ss u 24 (stOf S (stD S) D : Nat) (wyD S D : Nat)) : RI S v a b d ((e : Int) + -1) := by
  intro E hE hg
  rw [hv]
  by_cases c : E = D
  · rw [c, ss_at]
  · have hp := isD_lpre hD
    rw [ss_ne _ _ (fun z => c (st_inj hO hE hp (by omega)))]
    refine h E hE (Classical.byContradiction (fun z => c (isD_uq hO (lpre_isD hE) hD (fun l hl4 => ?_))))
    unfold gtL at hg z
    have : l = 0 ∨ l = 1 ∨ l = 2 ∨ l = 3 := by omega
    rcases this with rfl | rfl | rfl | rfl
    · show dc S E 0 = a; omega
    · show dc S E 1 = b; omega
    · show dc S E 2 = d; omega
    · show dc S E 3 = e; omega
theorem RI_next {S : List GR} {u : St} {a b d e D s : Nat} (hO : gOk S) (hB : gB S) (hs : gSort S) (ha : a ≤ lc S 0 S.length) (hb : b ≤ lc S 1 S.length) (hd : d ≤ lc S 2 S.length) (he : e ≤ lc S 3 S.length) (h : RI S u a b d e) (hD : isD S (cv a b d e) D) (hsl : s < S.length) (hf : freeB S D s = true) : u 24 (stOf S (stD S) (D ||| 2 ^ s) : Nat) = (wyD S (D ||| 2 ^ s) : Nat) := by
  have hp := isD_lpre hD
  have hn := (fr_bits hf).1
  refine h _ (lpre_add hO hB hs hp hsl hf) ?_
  unfold gtL
  rw [dc_add hsl hn, dc_add hsl hn, dc_add hsl hn, dc_add hsl hn, isD_dc hD 0 ha, isD_dc hD 1 hb, isD_dc hD 2 hd, isD_dc hD 3 he]
  show (a : Int) < ((a + _ : Nat) : Int) ∨ (((a + _ : Nat) : Int) = a ∧ ((b : Int) < ((b + _ : Nat) : Int) ∨ (((b + _ : Nat) : Int) = b ∧ ((d : Int) < ((d + _ : Nat) : Int) ∨ (((d + _ : Nat) : Int) = d ∧ (e : Int) < ((e + _ : Nat) : Int))))))
  have h4 := (ln_lt hO hsl).1
  have : lnS S s = 0 ∨ lnS S s = 1 ∨ lnS S s = 2 ∨ lnS S s = 3 := by omega
  rcases this with q | q | q | q <;> rw [q] <;> simp <;> omega
theorem reckon_ok {σ : St} {N : Int → Int} {Q : St → Prop} (hp : planOk N) (hG : GC σ (stS N)) (hl : (stS N).length ≤ 20) (hw : wyR σ N) (k : ∀ σ' : St, cfr 23 28 σ σ' → σ' 23 0 = 1 → WY σ' (stS N) → Q σ') : V_Ways_reckon σ Q := by
  obtain ⟨o1, o2, o3, o4⟩ := stS_ok hp
  obtain ⟨S, hS⟩ : ∃ S, S = stS N := ⟨_, rfl⟩
  unfold wyR at hw
  rw [← hS] at hG hl hw k o1 o2 o3 o4
  have lc12 : ∀ l, lc S l S.length ≤ 12 := fun l => lc_12 o1 o4 l S.length (Nat.le_refl _)
  unfold V_Ways_reckon
  refine ⟨fun _ => ?_, fun hne => ?_⟩
  rotate_left
  · rcases hw with q | ⟨q1, q2⟩
    · rw [q] at hne; exact absurd z00 hne
    · exact k σ cfr.rf q1 q2
  refine sortIntoLines_ok hG o1 o4 o2 hl (fun σ1 f1 L1 s1 x2 hx2 => ?_)
  have G1 : GC σ1 S := hG.fe (fun k a b => f1 k (by omega))
  have c0 := lc12 0
  have c1 := lc12 1
  have c2 := lc12 2
  have c3 := lc12 3
  have e0 : σ1 25 0 = (lc S 0 S.length : Nat) := L1.1 0 (by decide)
  have e1 : σ1 25 1 = (lc S 1 S.length : Nat) := L1.1 1 (by decide)
  have e2 : σ1 25 2 = (lc S 2 S.length : Nat) := L1.1 2 (by decide)
  have e3 : σ1 25 3 = (lc S 3 S.length : Nat) := L1.1 3 (by decide)
  obtain ⟨n0, hn0⟩ : ∃ n, n = lc S 0 S.length := ⟨_, rfl⟩
  obtain ⟨n1, hn1⟩ : ∃ n, n = lc S 1 S.length := ⟨_, rfl⟩
  obtain ⟨n2, hn2⟩ : ∃ n, n = lc S 2 S.length := ⟨_, rfl⟩
  obtain ⟨n3, hn3⟩ : ∃ n, n = lc S 3 S.length := ⟨_, rfl⟩
  rw [← hn0] at c0 e0
  rw [← hn1] at c1 e1
  rw [← hn2] at c2 e2
  rw [← hn3] at c3 e3
  have bd : ∀ c : Nat → Nat, (∀ l, c l ≤ lc S l S.length) → c 0 ≤ n0 ∧ c 1 ≤ n1 ∧ c 2 ≤ n2 ∧ c 3 ≤ n3 := fun c h => ⟨by rw [hn0]; exact h 0, by rw [hn1]; exact h 1, by rw [hn2]; exact h 2, by rw [hn3]; exact h 3⟩
  have stay : ∀ {u : St}, cfr 24 24 σ1 u → GC u S ∧ LT u S S.length ∧ (∀ l : Nat, l < 4 → u 26 l = (stD S l : Nat)) := fun {u} f => ⟨G1.fe (fun k a b => f k (by omega)), L1.fe (f 25 (by omega)) (f 27 (by omega)) (f 28 (by omega)), fun l hl => by rw [f 26 (by omega)]; exact s1 l hl⟩
  rw [hx2, e0]
  refine wl1 (fun a u => -1 ≤ a ∧ a ≤ n0 ∧ cfr 24 24 σ1 u ∧ RI S u a n1 n2 n3) (fun a _ => (a + 1).toNat) ⟨by omega, by omega, cfr.rf, fun D _ hg => ?_⟩ ?_
  · have := bd (dc S D) (fun l => dc_le S D l)
    unfold gtL at hg
    omega
  intro bk a u hI hb
  obtain ⟨a1, a2, a3, a4⟩ := hI
  rw [i32_id (x := a) (by omega) (by omega)]
  refine ⟨fun hc v hv => ?_, fun hc x3 hx3 => ?_⟩
  · refine k v ?_ (by rw [hv, ss_at]) ⟨hl, stD S, fun l h4 => ?_, fun D hD => ⟨st_lt o1 hl D, ?_⟩⟩
    · rw [hv]
      exact ((f1.mono (by decide) (by decide)).tr (a3.mono (by decide) (by decide))).tr (cfr.s (by decide) (by decide))
    · rw [hv, ss_row _ (by decide)]
      exact (stay a3).2.2 l h4
    · rw [hv, ss_row _ (by decide)]
      exact a4 D hD (by unfold gtL; omega)
  rw [hx3, show u 25 1 = n1 by rw [a3 25 (by omega), e1]]
  refine wl1 (fun b v => -1 ≤ b ∧ b ≤ n1 ∧ cfr 24 24 σ1 v ∧ RI S v a b n2 n3) (fun b _ => (b + 1).toNat) ⟨by omega, by omega, a3, a4⟩ ?_
  intro bk1 b v hI1 hb1
  obtain ⟨b1, b2, b3, b4⟩ := hI1
  rw [i32_id (x := b) (by omega) (by omega)]
  refine ⟨fun hd => hb _ _ ⟨by omega, by omega, b3, RI_re b4 (fun c hcb hg => ?_)⟩ (by omega), fun hd x4 hx4 => ?_⟩
  · have := bd c hcb
    unfold gtL at *
    omega
  rw [hx4, show v 25 2 = n2 by rw [b3 25 (by omega), e2]]
  refine wl1 (fun d w => -1 ≤ d ∧ d ≤ n2 ∧ cfr 24 24 σ1 w ∧ RI S w a b d n3) (fun d _ => (d + 1).toNat) ⟨by omega, by omega, b3, b4⟩ ?_
  intro bk2 d w hI2 hb2
  obtain ⟨d1, d2, d3, d4⟩ := hI2
  rw [i32_id (x := d) (by omega) (by omega)]
  refine ⟨fun he => hb1 _ _ ⟨by omega, by omega, d3, RI_re d4 (fun c hcb hg => ?_)⟩ (by omega), fun he x5 hx5 => ?_⟩
  · have := bd c hcb
    unfold gtL at *
    omega
  rw [hx5, show w 25 3 = n3 by rw [d3 25 (by omega), e3]]
  refine wl1 (fun e z => -1 ≤ e ∧ e ≤ n3 ∧ cfr 24 24 σ1 z ∧ RI S z a b d e) (fun e _ => (e + 1).toNat) ⟨by omega, by omega, d3, d4⟩ ?_
  intro bk3 e z hI3 hb3
  obtain ⟨g1, g2, g3, g4⟩ := hI3
  rw [i32_id (x := e) (by omega) (by omega)]
  refine ⟨fun hf => hb2 _ _ ⟨by omega, by omega, g3, RI_re g4 (fun c hcb hg => ?_)⟩ (by omega), fun hf => ?_⟩
  · have := bd c hcb
    unfold gtL at *
    omega
  obtain ⟨an, rfl⟩ : ∃ n : Nat, a = n := ⟨a.toNat, by omega⟩
  obtain ⟨bn, rfl⟩ : ∃ n : Nat, b = n := ⟨b.toNat, by omega⟩
  obtain ⟨dn, rfl⟩ : ∃ n : Nat, d = n := ⟨d.toNat, by omega⟩
  obtain ⟨en, rfl⟩ : ∃ n : Nat, e = n := ⟨e.toNat, by omega⟩
  obtain ⟨t1, t2, t3⟩ := stay g3
  refine reckonState_ok (c := cv an bn dn en) t1 o1 o3 o4 hl t2 t3 (fun l h4 => ?_) rfl rfl rfl rfl (fun D s hD hsl hfr => RI_next o1 o3 o4 (by omega) (by omega) (by omega) (by omega) g4 hD hsl hfr) (fun D z' hD hz' => ?_)
  · have : l = 0 ∨ l = 1 ∨ l = 2 ∨ l = 3 := by omega
    rcases this with rfl | rfl | rfl | rfl
    · show an ≤ _; omega
    · show bn ≤ _; omega
    · show dn ≤ _; omega
    · show en ≤ _; omega
  · refine hb3 _ _ ⟨by omega, by omega, g3.tr (by rw [hz']; exact cfr.s (by decide) (by decide)), RI_step o1 hl (by omega) (by omega) (by omega) (by omega) g4 hD hz'⟩ (by omega)
