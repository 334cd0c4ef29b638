theorem has_ok {σ τ : St} {n : Nat} {a2 : Int} {Q : Int → St → Prop} (hS : shR σ τ) (hn : n < 4) (r2 : i32 a2 = a2) (h1 : 0 ≤ τ 24 n ∧ 0 ≤ a2 ∧ a2 < τ 25 n → Q 1 σ) (h0 : ¬ (0 ≤ τ 24 n ∧ 0 ≤ a2 ∧ a2 < τ 25 n) → Q 0 σ) : V_Sheet_has (57 + 2 * n) σ a2 Q := by
  obtain ⟨b1, b2, b3, b4⟩ := hS n hn
  unfold V_Sheet_has
  rw [b1, r2, i32_id (x := τ 24 n) (by omega) (by omega)]
  refine ⟨fun z => h0 (by omega), fun z => ⟨fun y => h0 (by omega), fun y => ?_⟩⟩
  obtain ⟨c1, c2, c3, c4⟩ := b4 (by omega)
  rw [c1, i32_id (x := τ 25 n) (by omega) (by omega)]
  exact ⟨fun x => h0 (by omega), fun x => h1 (by omega)⟩
theorem isItem_ok {σ τ : St} {n : Nat} {a1 a2 : Int} {Q : Int → St → Prop} (hS : shR σ τ) (hn : n < 4) (e1 : a1 = n) (r1 : i32 a1 = a1) (r2 : i32 a2 = a2) (h1 : 0 ≤ τ 24 n ∧ 0 ≤ a2 ∧ a2 < τ 25 n → Q 1 τ) (h0 : ¬ (0 ≤ τ 24 n ∧ 0 ≤ a2 ∧ a2 < τ 25 n) → Q 0 τ) : V_M_isItem τ a1 a2 Q := by
  obtain ⟨b1, b2, b3, b4⟩ := hS n hn
  unfold V_M_isItem
  rw [r1, r2]
  subst e1
  rw [i32_id (x := τ 24 n) (by omega) (by omega)]
  refine ⟨⟨by omega, by omega⟩, fun z => h0 (by omega), fun z => ⟨⟨by omega, by omega⟩, ?_⟩⟩
  obtain ⟨c1, c2, c3, c4⟩ := b4 z
  rw [i32_id (x := τ 25 n - 1) (by omega) (by omega)]
  exact in_ok (i64_of32 r2) k64_0 (i64_id (by omega) (by omega)) (fun y => ⟨fun w => absurd w n10, fun _ => h1 (by omega)⟩) (fun y => ⟨fun _ => h0 (by omega), fun w => absurd z00 w⟩)
theorem i16_rng (x : Int) : -32768 ≤ i16 x ∧ i16 x ≤ 32767 := by
  unfold i16
  rw [Int16.toInt_toInt32]
  have h1 := Int16.le_toInt (Int32.ofInt x).toInt16
  have h2 := Int16.toInt_lt (Int32.ofInt x).toInt16
  omega
theorem op_put {σ τ : St} (hR : Rel σ τ) {a1 a2 a3 : Int} (r1 : i32 a1 = a1) (r2 : i32 a2 = a2) (r3 : i64 a3 = a3) : V_P_put σ a1 a2 a3 (fun r σ' => V_M_put τ a1 a2 a3 (fun r' τ' => i32 r = i32 r' ∧ Rel σ' τ')) := by
  have hS := hR.1.2.1
  unfold V_P_put
  refine isSheet_ok r1 (fun h1 => ⟨fun _ => ?_, fun w => absurd w n10⟩) (fun h1 => ⟨fun w => absurd z00 w, fun _ => ?_⟩)
  · rw [r1, r2]
    obtain ⟨n, hn⟩ : ∃ n : Nat, a1 = n := ⟨a1.toNat, by omega⟩
    have hn4 : n < 4 := by omega
    obtain ⟨b1, b2, b3, b4⟩ := hS n hn4
    refine ⟨h1, fun q hq => ?_⟩
    have hqn : q = 57 + 2 * n := by omega
    subst hqn
    refine has_ok hS hn4 r2 (fun hc => ⟨fun _ => ⟨h1, fun q6 hq6 => ⟨h1, fun q7 hq7 => ?_⟩⟩, fun w => absurd w n10⟩) (fun hc => ⟨fun w => absurd z00 w, fun _ => ?_⟩)
    · have e6 : q6 = 57 + 2 * n := by omega
      have e7 : q7 = 57 + 2 * n := by omega
      subst e6
      subst e7
      obtain ⟨c1, c2, c3, c4⟩ := b4 hc.1
      -- what is put
      have fin : ∀ v : Int, i64 v = v → (∀ (Q : Int → St → Prop), (∀ τ1, τ1 = ss τ 26 (60 * a1 + a2) v → Q 1 τ1) → V_M_put τ a1 a2 a3 Q) → (0 ≤ a2 ∧ a2 < 60) ∧ ∀ σ10 : St, σ10 = ss σ (57 + 2 * n + 1) a2 v → V_M_put τ a1 a2 a3 (fun r' τ' => i32 1 = i32 r' ∧ Rel σ10 τ') := by
        intro v hv hM
        refine ⟨⟨hc.2.1, by omega⟩, fun s10 h10 => hM _ (fun t1 e1 => ⟨rfl, ?_⟩)⟩
        refine hR.sheet (n := n) hn4 (fun k x1 x2 => by rw [h10, ss_row _ (by omega)]) (fun k _ _ x3 => by rw [e1, ss_row _ x3]) (fun i hi hne => ⟨by rw [e1, ss_row _ (by decide)], by rw [e1, ss_row _ (by decide)], fun k x1 x2 => by rw [e1, ss_ne _ _ (by omega)]⟩) ?_
        rw [e1, ss_row τ (show (24 : Nat) ≠ 26 by decide), ss_row τ (show (25 : Nat) ≠ 26 by decide), ss_self, h10, ss_row σ (show 57 + 2 * n ≠ 57 + 2 * n + 1 by omega), show 58 + 2 * n = 57 + 2 * n + 1 by omega, ss_self]
        refine ⟨b1, b2, b3, fun _ => ⟨c1, c2, c3, fun k x1 x2 => ?_⟩⟩
        simp only
        by_cases ck : k = a2
        · rw [if_pos ck, if_pos (by omega)]
          exact ⟨rfl, hv⟩
        · rw [if_neg ck, if_neg (by omega)]
          have := c4 k x1 x2
          rw [show 58 + 2 * n = 57 + 2 * n + 1 by omega] at this
          exact this
      have mgo : ∀ (v : Int) (Q : Int → St → Prop), (τ 24 n = 0 → (¬ a3 = 0 → v = 1) ∧ (a3 = 0 → v = 0)) → (τ 24 n = 1 → v = i32 (i16 a3)) → (τ 24 n = 2 → v = i32 a3) → (τ 24 n = 3 → v = a3) → (∀ τ1, τ1 = ss τ 26 (60 * a1 + a2) v → Q 1 τ1) → V_M_put τ a1 a2 a3 Q := by
        intro v Q v0 v1 v2 v3 hQ
        unfold V_M_put
        refine MisSheet_ok r1 (fun _ => ⟨fun _ => ?_, fun w => absurd w n10⟩) (fun w => absurd h1 w)
        refine isItem_ok hS hn4 hn r1 r2 (fun _ => ⟨fun _ => ?_, fun w => absurd w n10⟩) (fun w => absurd hc w)
        have e24 : τ 24 a1 = τ 24 n := by rw [hn]
        rw [r1, r3, e24, i32_id (x := τ 24 n) (by omega) (by omega), i32_id (x := 60 * a1 + a2) (by omega) (by omega)]
        refine ⟨h1, fun z0 => ⟨h1, fun z1 => ⟨h1, fun z2 => ⟨⟨by omega, by omega⟩, fun t e => ?_⟩, fun z2 => ⟨⟨by omega, by omega⟩, fun t e => ?_⟩⟩, fun z1 => ⟨⟨by omega, by omega⟩, fun t e => ?_⟩⟩, fun z0 => ⟨fun za => ⟨⟨by omega, by omega⟩, fun t e => ?_⟩, fun za => ⟨⟨by omega, by omega⟩, fun t e => ?_⟩⟩⟩
        · exact hQ t (by rw [e, v3 (by omega)])
        · exact hQ t (by rw [e, v2 z2])
        · exact hQ t (by rw [e, v1 z1])
        · exact hQ t (by rw [e, (v0 z0).1 za])
        · exact hQ t (by rw [e, (v0 z0).2 za])
      unfold V_Sheet_cut
      rw [b1, r3, i32_id (x := τ 24 n) (by omega) (by omega)]
      have h16 := i16_rng a3
      refine ⟨fun z => ⟨fun y => ?_, fun y => ?_⟩, fun z => ?_, fun z => ?_, fun z => ?_⟩
      · exact fin 0 k64_0 (fun Q hQ => mgo 0 Q (fun _ => ⟨fun w => absurd y w, fun _ => rfl⟩) (fun w => by omega) (fun w => by omega) (fun w => by omega) hQ)
      · exact fin 1 k64_1 (fun Q hQ => mgo 1 Q (fun _ => ⟨fun _ => rfl, fun w => absurd w y⟩) (fun w => by omega) (fun w => by omega) (fun w => by omega) hQ)
      · exact fin _ (i64_i32 _) (fun Q hQ => mgo _ Q (fun w => by omega) (fun _ => rfl) (fun w => by omega) (fun w => by omega) hQ)
      · exact fin _ (i64_i32 _) (fun Q hQ => mgo _ Q (fun w => by omega) (fun w => by omega) (fun _ => rfl) (fun w => by omega) hQ)
      · exact fin _ r3 (fun Q hQ => mgo _ Q (fun w => by omega) (fun w => by omega) (fun w => by omega) (fun _ => rfl) hQ)
    · refine both_fail (e := -1000000007) hR (by decide) (by decide) (by decide) (VM := fun τ Q => V_M_put τ a1 a2 a3 Q) (fun Q hQ => ?_)
      unfold V_M_put
      refine MisSheet_ok r1 (fun _ => ⟨fun _ => ?_, fun w => absurd w n10⟩) (fun w => absurd h1 w)
      exact isItem_ok hS hn4 hn r1 r2 (fun w => absurd w hc) (fun _ => ⟨fun w => absurd z00 w, fun _ => hQ⟩)
  · refine both_fail (e := -1000000001) hR (by decide) (by decide) (by decide) (VM := fun τ Q => V_M_put τ a1 a2 a3 Q) (fun Q hQ => ?_)
    unfold V_M_put
    exact MisSheet_ok r1 (fun w => absurd w h1) (fun _ => ⟨fun w => absurd z00 w, fun _ => hQ⟩)
theorem op_number {σ τ : St} (hR : Rel σ τ) {a1 a2 : Int} (r1 : i32 a1 = a1) (r2 : i32 a2 = a2) : V_P_number σ a1 a2 (fun r σ' => V_M_number τ a1 a2 (fun r' τ' => i64 r = i64 r' ∧ Rel σ' τ')) := by
  have hS := hR.1.2.1
  unfold V_P_number
  refine isSheet_ok r1 (fun h1 => ⟨fun _ => ?_, fun w => absurd w n10⟩) (fun h1 => ⟨fun w => absurd z00 w, fun _ => ?_⟩)
  · rw [r1, r2]
    obtain ⟨n, hn⟩ : ∃ n : Nat, a1 = n := ⟨a1.toNat, by omega⟩
    have hn4 : n < 4 := by omega
    obtain ⟨b1, b2, b3, b4⟩ := hS n hn4
    refine ⟨h1, fun q hq => ?_⟩
    have hqn : q = 57 + 2 * n := by omega
    subst hqn
    refine has_ok hS hn4 r2 (fun hc => ⟨fun _ => ⟨h1, fun q6 hq6 => ?_⟩, fun w => absurd w n10⟩) (fun hc => ⟨fun w => absurd z00 w, fun _ => ?_⟩)
    · have e6 : q6 = 57 + 2 * n := by omega
      subst e6
      obtain ⟨c1, c2, c3, c4⟩ := b4 hc.1
      refine ⟨⟨hc.2.1, by omega⟩, ?_⟩
      unfold V_M_number
      refine MisSheet_ok r1 (fun _ => ⟨fun _ => ?_, fun w => absurd w n10⟩) (fun w => absurd h1 w)
      refine isItem_ok hS hn4 hn r1 r2 (fun _ => ⟨fun w => absurd w n10, fun _ => ?_⟩) (fun w => absurd hc w)
      rw [i32_id (x := 60 * a1 + a2) (by omega) (by omega)]
      refine ⟨⟨by omega, by omega⟩, ?_, hR⟩
      have := (c4 a2 hc.2.1 (by omega)).1
      rw [show 57 + 2 * n + 1 = 58 + 2 * n by omega, this, hn]
    · refine both_failL (e := -1000000007) hR (by decide) (by decide) (by decide) (VM := fun τ Q => V_M_number τ a1 a2 Q) (fun Q hQ => ?_)
      unfold V_M_number
      refine MisSheet_ok r1 (fun _ => ⟨fun _ => ?_, fun w => absurd w n10⟩) (fun w => absurd h1 w)
      exact isItem_ok hS hn4 hn r1 r2 (fun w => absurd w hc) (fun _ => ⟨fun _ => hQ, fun w => absurd z00 w⟩)
  · refine both_failL (e := -1000000001) hR (by decide) (by decide) (by decide) (VM := fun τ Q => V_M_number τ a1 a2 Q) (fun Q hQ => ?_)
    unfold V_M_number
    exact MisSheet_ok r1 (fun w => absurd w h1) (fun _ => ⟨fun w => absurd z00 w, fun _ => hQ⟩)
-- what is used stays small
def useB (w : AW) : Prop := ∀ t, 0 ≤ w.2.1 t
theorem upf_at (f : Int → Int) (i v : Int) : upf f i v i = v := by simp [upf]
theorem awX_use {w : AW} {p s b : Int} {M : Int} (h : ∀ t, 0 ≤ w.2.1 t ∧ w.2.1 t ≤ M) : ∀ t, 0 ≤ (awX w p s b).2.1 t ∧ (awX w p s b).2.1 t ≤ M + 2 := by
  intro t
  show 0 ≤ upf (upf w.2.1 (xOv w p s) (w.2.1 (xOv w p s) + 2)) (xUn w p s) (w.2.1 (xUn w p s) + 1) t ∧ upf (upf w.2.1 (xOv w p s) (w.2.1 (xOv w p s) + 2)) (xUn w p s) (w.2.1 (xUn w p s) + 1) t ≤ _
  unfold upf
  have h1 := h (xOv w p s)
  have h2 := h (xUn w p s)
  have h3 := h t
  split
  · omega
  · split <;> omega
theorem awL_use {w : AW} {c g b : Int} {M : Int} (h : ∀ t, 0 ≤ w.2.1 t ∧ w.2.1 t ≤ M) : ∀ t, 0 ≤ (awL w c g b).2.1 t ∧ (awL w c g b).2.1 t ≤ M + 4 := by
  intro t
  unfold awL
  split
  · have := awX_use (p := 2 * g + 1) (s := 1) (b := b) h t; omega
  · split
    · have := awX_use (p := 2 * g + 1) (s := 2) (b := b) h t; omega
    · split
      · have := awX_use (p := 2 * g + 2) (s := 2) (b := b) (awX_use (p := 2 * g) (s := 2) (b := b) h) t; omega
      · have := awX_use (p := 2 * g + 2) (s := 1) (b := b) (awX_use (p := 2 * g) (s := 1) (b := b) h) t; omega
theorem awN_use {w : AW} {f : Int → Int} {g b : Int} {M : Int} (h : ∀ t, 0 ≤ w.2.1 t ∧ w.2.1 t ≤ M) (n : Nat) : ∀ t, 0 ≤ (awN w f g b n).2.1 t ∧ (awN w f g b n).2.1 t ≤ M + 4 * n := by
  induction n with
  | zero => intro t; have := h t; show 0 ≤ w.2.1 t ∧ w.2.1 t ≤ _; omega
  | succ n ih =>
    intro t
    have := awL_use (c := f n) (g := g) (b := b) ih t
    show 0 ≤ (awL (awN w f g b n) (f n) g b).2.1 t ∧ (awL (awN w f g b n) (f n) g b).2.1 t ≤ _
    omega
theorem awU_use {w : AW} {g : Int} {M : Int} (h : ∀ t, 0 ≤ w.2.1 t ∧ w.2.1 t ≤ M) (n : Nat) : ∀ t, 0 ≤ (awU w g n).2.1 t ∧ (awU w g n).2.1 t ≤ M + n := by
  induction n with
  | zero => intro t; have := h t; show 0 ≤ w.2.1 t ∧ w.2.1 t ≤ _; omega
  | succ n ih =>
    intro t
    show 0 ≤ upf (awU w g n).2.1 ((awU w g n).1 (2 * g + n)) ((awU w g n).2.1 ((awU w g n).1 (2 * g + n)) + 1) t ∧ upf (awU w g n).2.1 ((awU w g n).1 (2 * g + n)) ((awU w g n).2.1 ((awU w g n).1 (2 * g + n)) + 1) t ≤ _
    unfold upf
    have h1 := ih t
    have h2 := ih ((awU w g n).1 (2 * g + n))
    split <;> omega
theorem awS_use {N : Int → Int} {w : AW} {k g b : Int} {M : Int} (hw : wordOk N k) (h : ∀ t, 0 ≤ w.2.1 t ∧ w.2.1 t ≤ M) : ∀ t, 0 ≤ (awS N w k g b).2.1 t ∧ (awS N w k g b).2.1 t ≤ M + 36 := by
  intro t
  have := awN_use (f := fun i => N (87 + 9 * k + i)) (g := g) (b := b) (awU_use (g := g) h 4) (N (86 + 9 * k)).toNat t
  have h1 := hw.1
  have h2 := hw.2.1
  show 0 ≤ (awN (awU w g 4) (fun i => N (87 + 9 * k + i)) g b (N (86 + 9 * k)).toNat).2.1 t ∧ _
  unfold awS
  omega
theorem awQ_use {N gp kd : Int → Int} {wk : Nat → Int} {many : Int} (h : stOk N gp kd many) (n : Nat) (hw : ∀ i, i < n → 0 ≤ wk i ∧ wk i < many) : ∀ t, 0 ≤ (awQ N gp kd wk n).2.1 t ∧ (awQ N gp kd wk n).2.1 t ≤ 36 * n := by
  induction n with
  | zero => intro t; exact ⟨Int.le_refl _, Int.le_refl _⟩
  | succ n ih =>
    have h1 := hw n (by omega)
    have h2 := h.2.2.1 _ h1.1 h1.2
    intro t
    have := awS_use (g := gp (wk n)) (b := wk n) (h.2.2.2 _ h2.1 h2.2.1) (ih (fun i hi => hw i (by omega))) t
    show 0 ≤ (awS N (awQ N gp kd wk n) (kd (wk n)) (gp (wk n)) (wk n)).2.1 t ∧ (awS N (awQ N gp kd wk n) (kd (wk n)) (gp (wk n)) (wk n)).2.1 t ≤ _
    omega
theorem wkA_use {N : Int → Int} (h : planOk N) : ∀ t, 0 ≤ (wkA N).2.1 t ∧ (wkA N).2.1 t ≤ 2000 := by
  intro t
  have hl := (stS_ok h).2.1
  have q7 := h.2.2.2.2.2.2.1
  have q8 := h.2.2.2.2.2.2.2.1
  have := awQ_use (wk := fun i : Nat => N (156 + (i : Int))) (plan_st h) (N 1).toNat (fun i hi => by
    have := h.2.2.2.2.2.2.2.2 i (by omega)
    exact ⟨this.1, this.2.1⟩) t
  unfold wkA
  omega
theorem alA_use {N : Int → Int} (h : planOk N) (n : Nat) (hn : n ≤ (stS N).length) : ∀ t, 0 ≤ (alA N n).2.1 t ∧ (alA N n).2.1 t ≤ 2000 := by
  intro t
  have hl := (stS_ok h).2.1
  have := awQ_use (wk := fun i : Nat => (i : Int)) (plan_st h) n (fun i hi => ⟨by omega, by omega⟩) t
  unfold alA
  omega
