-- READ, SPELL: both sides
theorem Rel.tape0 {σ τ : St} (hR : Rel σ τ) : Rel (ss σ 53 1 0) (ss τ 0 12 0) := by
  obtain ⟨⟨a1, a2, a3, a4⟩, p⟩ := hR
  have eC : ∀ k, k ≠ 53 → ss σ 53 1 0 k = σ k := fun k h => ss_row _ h _ _
  have eM : ∀ k, k ≠ 0 → ss τ 0 12 0 k = τ k := fun k h => ss_row _ h _ _
  have eJ : ∀ j, j ≠ 12 → ss τ 0 12 0 0 j = τ 0 j := fun j h => ss_ne _ _ h _
  refine ⟨⟨⟨by rw [ss_at, ss_at], by rw [ss_at]; decide, by rw [ss_at]; decide, fun i a b => ?_⟩, fun i hi => ?_, ?_, ?_⟩, ?_⟩
  · rw [ss_at] at b; omega
  · rw [eC _ (by omega), eC _ (by omega), eM 24 (by decide), eM 25 (by decide), eM 26 (by decide)]
    exact a2 i hi
  · unfold errR
    rw [eC 56 (by decide), eM 4 (by decide)]
    exact a3
  · exact a4.fe (fun k a b => eC k (by omega)) (by rw [eC 0 (by decide)]) (eM 2 (by decide)) (eJ 3 (by decide))
  · refine RelP.fm (τ := τ) ?_ (eM 1 (by decide)) (eJ 5 (by decide)) (fun k a b => eM k (by omega))
    exact p.fc (fun k h => eC k (by omega)) (by rw [eC 0 (by decide)]) (by rw [eC 0 (by decide)])
theorem ss_ss (τ : St) (k : Nat) (i a b : Int) : ss (ss τ k i a) k i b = ss τ k i b := by
  funext q j
  unfold ss
  by_cases h : q = k
  · by_cases h2 : j = i
    · simp [h, h2]
    · simp [h, h2]
  · simp [h]
theorem ss_eta (τ : St) (k : Nat) (i : Int) : ss τ k i (τ k i) = τ := by
  funext q j
  unfold ss
  by_cases h : q = k
  · by_cases h2 : j = i
    · simp [h, h2]
    · simp [h, h2]
  · simp [h]
theorem anew0 {s t : St} {N : Int → Int} {c : Int} {Q : St → Prop} (hA : RelA s (ss t 0 12 c)) (h12 : t 0 12 = 0) (hb : planB N) (hP : PR s 1 N) (ht : t 1 = N) (h : ∀ σ' : St, σ' 16 0 = (stS N).length → σ' 4 = s 4 → (∀ Qm : St → Prop, (∀ τ' : St, τ' 0 5 = (stS N).length → Rel (ss σ' 53 1 0) τ' → Qm τ') → V_M_anew t Qm) → Q σ') : V_P_beginAnew s Q := by
  refine anew_ok hb hP.1 hP.2.2.1 (fun σ' hR' e16 e10 e160 fr e03 => h σ' e160 (fr 4 (by omega)) (fun Qm hQm => ?_))
  refine Manew_ok (by rw [ht]; exact hb) (fun τ' m1 m2 m3 m4 => ?_)
  rw [ht] at m1 m2
  refine hQm τ' m2.1 ?_
  have hA' : RelA σ' (ss τ' 0 12 c) := by
    refine (hA.fc (fun k hk => fr k (by omega)) e03).fm ?_ ?_ ?_ ?_ ?_ ?_ ?_ ?_
    · rw [ss_row _ (by decide), ss_row _ (by decide)]; exact m3 2 (by decide) (by decide) (by decide)
    · rw [ss_row _ (by decide), ss_row _ (by decide)]; exact m3 4 (by decide) (by decide) (by decide)
    · rw [ss_row _ (by decide), ss_row _ (by decide)]; exact m3 10 (by decide) (by decide) (by decide)
    · rw [ss_row _ (by decide), ss_row _ (by decide)]; exact m3 24 (by decide) (by decide) (by decide)
    · rw [ss_row _ (by decide), ss_row _ (by decide)]; exact m3 25 (by decide) (by decide) (by decide)
    · rw [ss_row _ (by decide), ss_row _ (by decide)]; exact m3 26 (by decide) (by decide) (by decide)
    · rw [ss_ne _ _ (by decide), ss_ne _ _ (by decide)]; exact m4 3 (by decide)
    · rw [ss_at, ss_at]
  have hG : GM (ss τ' 0 12 c) (stS N) := by
    unfold GM
    rw [ss_ne _ _ (by decide), ss_row _ (by decide), ss_row _ (by decide), ss_row _ (by decide), ss_row _ (by decide), ss_row _ (by decide)]
    exact m2
  have hR := hR' (ss τ' 0 12 c) hA' (by rw [ss_row _ (by decide)]; exact m1) (PR_z hP e16 e10 (fun k a b => fr k (by omega))) hG
  have := hR.tape0
  rw [ss_ss] at this
  have e : ss τ' 0 12 0 = τ' := by
    have := ss_eta τ' 0 12
    rw [m4 12 (by decide), h12] at this
    exact this
  rw [e] at this
  exact this
def rdN (N T : Int → Int) (w n : Int) : Int → Int := fun i => if 2 ≤ i ∧ i < 86 then pcT T w n (i - 2) else N i
theorem rdN_b {N T : Int → Int} {w L : Int} (h : planB N) (hw : N 0 = w) (h120 : L ≤ 120) (ho : ∀ j, 0 ≤ j → j < L → okc T w j) : planB (rdN N T w L) := by
  have h2 : 2 ≤ w := by rw [← hw]; exact h.1
  have h8 : w ≤ 8 := by rw [← hw]; exact h.2.1
  have ec : ∀ k, 0 ≤ k → k < 84 → rdN N T w L (2 + k) = pcT T w L k := fun k a b => by
    unfold rdN
    rw [if_pos (by omega), show 2 + k - 2 = k by omega]
  have eo : ∀ i, ¬ (2 ≤ i ∧ i < 86) → rdN N T w L i = N i := fun i a => by unfold rdN; rw [if_neg a]
  have val : ∀ k, 0 ≤ k → pcT T w L k ≠ -1 → k % 7 < w - 1 ∧ w * (k / 7) + k % 7 < L ∧ 97 ≤ T (w * (k / 7) + k % 7) ∧ T (w * (k / 7) + k % 7) ≤ 102 ∧ pcT T w L k = T (w * (k / 7) + k % 7) - 97 := by
    intro k hk hne
    unfold pcT at hne ⊢
    by_cases c : k % 7 < w - 1 ∧ w * (k / 7) + k % 7 < L ∧ ¬ T (w * (k / 7) + k % 7) = 46
    · rw [if_pos c]
      have hnn : 0 ≤ w * (k / 7) := Int.mul_nonneg (by omega) (by omega)
      have hoi := ho (w * (k / 7) + k % 7) (by omega) c.2.1
      have hat := pc_at h2 h8 c.1 rfl
      rcases hoi.2 (by omega) with q | ⟨q1, q2, q3⟩
      · exact absurd q c.2.2
      · exact ⟨c.1, c.2.1, q1, q2, rfl⟩
    · rw [if_neg c] at hne
      exact absurd rfl hne
  refine h.cells (by rw [eo 0 (by omega)]; exact h.1) (by rw [eo 0 (by omega)]; exact h.2.1) ⟨fun k a b => ?_, fun r g a b c d hge => ?_⟩ (fun r g a b c d => ?_) (fun i hi => eo i (by omega))
  · rw [ec k a b]
    by_cases c : pcT T w L k = -1
    · omega
    · have := val k a c
      omega
  · rw [show (2 : Int) + 7 * r + g = 2 + (7 * r + g) by omega, ec _ (by omega) (by omega)] at hge
    rw [show (2 : Int) + 7 * r + (g + 1) = 2 + (7 * r + (g + 1)) by omega, ec _ (by omega) (by omega)]
    have h1 := val (7 * r + g) (by omega) (by omega)
    by_cases cz : pcT T w L (7 * r + (g + 1)) = -1
    · omega
    · have h3 := val (7 * r + (g + 1)) (by omega) cz
      exfalso
      have e1 : (7 * r + g) / 7 = r ∧ (7 * r + g) % 7 = g := by omega
      have e2 : (7 * r + (g + 1)) / 7 = r ∧ (7 * r + (g + 1)) % 7 = g + 1 := by omega
      rw [e1.1, e1.2] at h1
      rw [e2.1, e2.2] at h3
      have hnn : 0 ≤ w * r := Int.mul_nonneg (by omega) a
      have hoi := ho (w * r + (g + 1)) (by omega) h3.2.1
      have hat := pc_at (i := w * r + (g + 1)) (k := 7 * r + (g + 1)) h2 h8 (by omega) (by rw [e2.1, e2.2])
      rcases hoi.2 (by omega) with q | ⟨q1, q2, q3⟩
      · omega
      · refine q3 ⟨by omega, ?_⟩
        rw [show w * r + (g + 1) - 1 = w * r + g by omega]
        exact ⟨h1.2.2.1, h1.2.2.2.1⟩
  · rw [eo 0 (by omega), hw] at c
    rw [show (2 : Int) + 7 * r + g = 2 + (7 * r + g) by omega, ec _ (by omega) (by omega)]
    unfold pcT
    rw [if_neg (by omega)]
theorem Mread_put {τ t : St} {N T : Int → Int} {w L : Int} {Q : St → Prop} (hw : N 0 = w) (h2 : 2 ≤ w) (h8 : w ≤ 8) (h0 : 0 ≤ L) (h120 : L ≤ 120) (ht : t 1 = N) (hT : t 10 = T) (hTr : ∀ i, 0 ≤ i → i < L → 0 ≤ T i ∧ T i ≤ 255) (ho : ∀ j, 0 ≤ j → j < L → okc T w j) (hQ : V_M_anew (sf t 1 (rdN N T w L)) Q) :
    WL1 (fun (bk10 : Int → St → Prop) (x4_8 : Int) (σ9 : St) => ((84 ≤ i32 x4_8 → WL1 (fun (bk13 : Int → St → Prop) (x4_11 : Int) (σ12 : St) => ((i32 L ≤ i32 x4_11 → V_M_anew σ12 (fun (σ14 : St) => Q σ14)) ∧ (i32 x4_11 < i32 L → (¬ i32 w = 0) ∧ ((i32 (w - 1) ≤ i32 (irm x4_11 w) → bk13 (x4_11 + 1) σ12) ∧ (i32 (irm x4_11 w) < i32 (w - 1) → (0 ≤ i32 x4_11 ∧ i32 x4_11 < 120) ∧ ((i32 (σ12 10 (i32 x4_11)) = 46 → bk13 (x4_11 + 1) σ12) ∧ (¬ i32 (σ12 10 (i32 x4_11)) = 46 → (¬ i32 w = 0) ∧ (¬ i32 w = 0) ∧ (0 ≤ i32 x4_11 ∧ i32 x4_11 < 120) ∧ (0 ≤ i32 ((2 + (7 * (idv x4_11 w))) + (irm x4_11 w)) ∧ i32 ((2 + (7 * (idv x4_11 w))) + (irm x4_11 w)) < 204) ∧ ∀ σ15 : St, σ15 = ss σ12 1 (i32 ((2 + (7 * (idv x4_11 w))) + (irm x4_11 w))) ((σ12 10 (i32 x4_11)) - 97) → bk13 (x4_11 + 1) σ15))))))) 0 σ9) ∧ (i32 x4_8 < 84 → (0 ≤ i32 (2 + x4_8) ∧ i32 (2 + x4_8) < 204) ∧ ∀ σ16 : St, σ16 = ss σ9 1 (i32 (2 + x4_8)) (-1) → bk10 (x4_8 + 1) σ16))) 0 t := by
  refine wl1 (fun i u => 0 ≤ i ∧ i ≤ 84 ∧ u = sf t 1 (fun j => if 2 ≤ j ∧ j < 2 + i then -1 else N j)) (fun i _ => (84 - i).toNat) ⟨by omega, by omega, ?_⟩ ?_
  · funext k j
    unfold sf
    by_cases hk : k = 1
    · subst hk
      rw [if_pos rfl, ht, if_neg (by omega)]
    · rw [if_neg hk]
  · intro bk i u hI hb
    obtain ⟨i1, i2, i3⟩ := hI
    rw [i32_id (x := i) (by omega) (by omega), i32_id (x := 2 + i) (by omega) (by omega)]
    refine ⟨fun hc => ?_, fun hc => ⟨⟨by omega, by omega⟩, fun u' hu' => hb _ _ ⟨by omega, by omega, ?_⟩ (by omega)⟩⟩
    · have : i = 84 := by omega
      subst this
      refine wl1 (fun i u => 0 ≤ i ∧ i ≤ L ∧ u = sf t 1 (rdN N T w i)) (fun i _ => (L - i).toNat) ⟨by omega, by omega, ?_⟩ ?_
      · rw [i3]
        congr 1
        funext j
        unfold rdN
        by_cases c : 2 ≤ j ∧ j < 86
        · rw [if_pos (by omega), if_pos c, pcT_0 h2 (by omega)]
        · rw [if_neg (by omega), if_neg c]
      · intro bk i u hI hb
        obtain ⟨i1, i2, i3⟩ := hI
        have hm := md_rng (i := i) h2
        have hd := md_dv h2 h8 i1 (by omega)
        have u10 : u 10 = T := by rw [i3, sf_row _ (by decide)]; exact hT
        rw [u10, irm_nn i1 (by omega) (by omega) (by omega), idv_nn i1 (by omega) (by omega) (by omega), i32_id (x := i) (by omega) (by omega), i32_id (x := L) (by omega) (by omega), i32_id (x := w) (by omega) (by omega), i32_id (x := w - 1) (by omega) (by omega), i32_id (x := i % w) (by omega) (by omega), i32_id (x := 2 + 7 * (i / w) + i % w) (by omega) (by omega)]
        refine ⟨fun hc => ?_, fun hc => ⟨by omega, fun hd => hb _ _ ⟨by omega, by omega, ?_⟩ (by omega), fun hd => ⟨⟨by omega, by omega⟩, ?_⟩⟩⟩
        · have : i = L := by omega
          subst this
          rw [i3]
          exact hQ
        · rw [i3]
          congr 1
          funext j
          unfold rdN
          by_cases c : 2 ≤ j ∧ j < 86
          · rw [if_pos c, if_pos c, pcT_last h2 h8 (Or.inl (by omega))]
          · rw [if_neg c, if_neg c]
        · have htr := hTr i i1 hc
          have hrow := okc_row h2 h8 ho h120 i1 hc
          rw [i32_id (x := T i) (by omega) (by omega)]
          refine ⟨fun he => hb _ _ ⟨by omega, by omega, ?_⟩ (by omega), fun he => ⟨by omega, by omega, ⟨by omega, by omega⟩, ⟨by omega, by omega⟩, fun v hv => hb _ _ ⟨by omega, by omega, ?_⟩ (by omega)⟩⟩
          · rw [i3]
            congr 1
            funext j
            unfold rdN
            by_cases c : 2 ≤ j ∧ j < 86
            · rw [if_pos c, if_pos c, pcT_last h2 h8 (Or.inr he)]
            · rw [if_neg c, if_neg c]
          · rw [hv, i3]
            funext k j
            unfold ss sf
            by_cases hk : k = 1
            · subst hk
              simp only [if_true]
              unfold rdN
              by_cases c : 2 ≤ j ∧ j < 86
              · rw [if_pos c, if_pos c, pcT_put h2 h8 hd he]
                by_cases cj : j = 2 + 7 * (i / w) + i % w
                · rw [if_pos cj, if_pos (by omega)]
                · rw [if_neg cj, if_neg (by omega)]
              · rw [if_neg c, if_neg c, if_neg (by omega)]
            · simp only [hk, if_false]
    · rw [hu', i3]
      funext k j
      unfold ss sf
      by_cases hk : k = 1
      · subst hk
        simp only [if_true]
        by_cases hj : j = 2 + i
        · rw [if_pos hj, if_pos (by omega)]
        · rw [if_neg hj]
          by_cases hq : 2 ≤ j ∧ j < 2 + i
          · rw [if_pos hq, if_pos (by omega)]
          · rw [if_neg hq, if_neg (by omega)]
      · simp only [hk, if_false]
theorem op_read {σ τ : St} (hR : Rel σ τ) : V_P_read σ (fun r σ' => V_M_read τ (fun r' τ' => i32 r = i32 r' ∧ Rel σ' τ')) := by
  obtain ⟨pl1, pl2, pl3⟩ := hR.pl
  have p1 := hR.2.1
  have p2 := hR.2.2.1
  obtain ⟨⟨t1, t2, t3, t4⟩, a2, a3, a4⟩ := hR.1
  have hT : ∀ i, 0 ≤ i → i < τ 0 12 → σ 54 i = τ 10 i ∧ 0 ≤ τ 10 i ∧ τ 10 i ≤ 255 := t4
  have hTm : ∀ i, 0 ≤ i → i < τ 0 12 → 0 ≤ τ 10 i ∧ τ 10 i ≤ 255 := fun i a b => (t4 i a b).2
  -- a fault
  have flt : ∀ k, 0 ≤ k → k ≤ 120 → (∀ Q : Int → St → Prop, Q k τ → V_M_prickingFault τ Q) → ((¬ i32 k = (-1) → J_P_read_37 (fun r σ' => V_M_read τ (fun r' τ' => i32 r = i32 r' ∧ Rel σ' τ')) k σ) ∧ (i32 k = (-1) → V_Tape_prickInto σ (fun (σ5 : St) => V_P_beginAnew σ5 (fun (σ6 : St) => J_P_read_37 (fun r σ' => V_M_read τ (fun r' τ' => i32 r = i32 r' ∧ Rel σ' τ')) k σ6)))) := by
    intro k k0 k1 hM
    rw [i32_id (x := k) (by omega) (by omega)]
    refine ⟨fun _ => ?_, fun w => by omega⟩
    unfold J_P_read_37
    rw [i32_id (x := k) (by omega) (by omega)]
    intro s hs
    refine ⟨fun _ => ?_, fun w => by omega⟩
    unfold V_M_read
    refine hM _ (fun x hx t ht => ⟨fun w => ?_, fun _ => ⟨rfl, by rw [hs, ht]; exact hR.tape0⟩⟩)
    rw [i32_id (x := k) (by omega) (by omega)] at w
    omega
  unfold V_P_read
  refine Cfault_ok (T := τ 10) (w := τ 1 0) (L := τ 0 12) (by rw [pl1]) pl2 pl3 t1 t2 t3 hT (fun i b1 b2 b3 b4 => ?_) (fun b1 b2 => ?_) (fun b1 b2 => ?_)
  · refine flt i b1 (by omega) (fun Q hQ => Mfault_ok rfl pl2 pl3 rfl t2 t3 hTm (fun j c1 c2 c3 c4 => ?_) (fun c1 c2 => absurd (c1 i b1 b2) b4) (fun c1 c2 => absurd (c1 i b1 b2) b4))
    have : j = i := by
      rcases Int.lt_trichotomy i j with q | q | q
      · exact absurd (c3 i b1 q) b4
      · exact q.symm
      · exact absurd (b3 j c1 q) c4
    rw [this]
    exact hQ
  · exact flt (τ 0 12) t2 t3 (fun Q hQ => Mfault_ok rfl pl2 pl3 rfl t2 t3 hTm (fun j c1 c2 c3 c4 => absurd (b1 j c1 c2) c4) (fun _ _ => hQ) (fun c1 c2 => absurd c2 b2))
  · refine ⟨fun w => absurd (by decide) w, fun _ => ?_⟩
    refine prickInto_ok pl2 pl3 t1 t2 t3 hT b1 (fun s s2 fs => ?_)
    have hb := rdN_b p1.b rfl t3 b1
    have e2 : ∀ k, 0 ≤ k → k < 84 → rdN (τ 1) (τ 10) (τ 1 0) (τ 0 12) (2 + k) = pcT (τ 10) (τ 1 0) (τ 0 12) k := fun k a b => by
      unfold rdN
      rw [if_pos (by omega), show 2 + k - 2 = k by omega]
    have eo : ∀ i, ¬ (2 ≤ i ∧ i < 86) → rdN (τ 1) (τ 10) (τ 1 0) (τ 0 12) i = τ 1 i := fun i a => by unfold rdN; rw [if_neg a]
    refine anew0 (t := sf (ss τ 0 12 0) 1 (rdN (τ 1) (τ 10) (τ 1 0) (τ 0 12))) (c := τ 0 12) (N := rdN (τ 1) (τ 10) (τ 1 0) (τ 0 12)) ?_ ?_ hb ?_ (sf_at _ _ _) (fun σ' e160 e4 hM => ?_)
    · have e : ∀ k, k ≠ 1 → ss (sf (ss τ 0 12 0) 1 (rdN (τ 1) (τ 10) (τ 1 0) (τ 0 12))) 0 12 (τ 0 12) k = τ k := by
        intro k hk
        by_cases c0 : k = 0
        · subst c0
          rw [ss_self, sf_row _ (by decide), ss_self]
          funext j
          simp only
          by_cases cj : j = 12
          · rw [if_pos cj, cj]
          · rw [if_neg cj, if_neg cj]
        · rw [ss_row _ c0, sf_row _ hk, ss_row _ c0]
      exact (hR.1.fc (fun k hk => fs k (by omega)) (by rw [fs 0 (by decide)])).fm (e 2 (by decide)) (e 4 (by decide)) (e 10 (by decide)) (e 24 (by decide)) (e 25 (by decide)) (e 26 (by decide)) (by rw [e 0 (by decide)]) (by rw [e 0 (by decide)])
    · rw [sf_row _ (by decide), ss_at]
    · exact p2.cells (by rw [fs 1 (by decide), eo 0 (by omega)]; exact pl1) (by rw [fs 1 (by decide), eo 1 (by omega)]; exact p2.2.1) (fun k a b => by rw [s2 k a b, e2 k a b]) (fun i h => eo i (by omega)) (fun k a b => fs k (by omega))
    · unfold J_P_read_37
      intro s4 h4
      refine ⟨fun w => absurd (by decide) w, fun _ => ?_⟩
      unfold V_M_read
      refine Mfault_ok rfl pl2 pl3 rfl t2 t3 hTm (fun j c1 c2 c3 c4 => absurd (b1 j c1 c2) c4) (fun c1 c2 => absurd b2 c2) (fun _ _ => ?_)
      intro x hx t ht
      refine ⟨fun _ => ?_, fun w => absurd w (by decide)⟩
      dsimp only [V_M_gaps]
      intro y hy
      have t11 : t 1 = τ 1 := by rw [ht, ss_row _ (by decide)]
      have hy' : y = τ 1 0 := by rw [hy, t11]; omega
      rw [hy', hx]
      refine Mread_put (τ := τ) (N := τ 1) (T := τ 10) (w := τ 1 0) (L := τ 0 12) (Q := fun σ14 => i32 (s4 16 0) = i32 (σ14 0 5) ∧ Rel s4 σ14) rfl pl2 pl3 t2 t3 t11 (by rw [ht, ss_row _ (by decide)]) hTm b1 ?_
      rw [ht]
      refine hM _ (fun τ' m5 mR => ?_)
      rw [h4]
      exact ⟨by rw [ss_row _ (by decide), e160, m5], mR⟩
-- spelling
def tld (c : Int) : Prop := c = 99 ∨ c = 67 ∨ c = 116 ∨ c = 84
def spN (N T : Int → Int) (k L n : Int) : Int → Int := fun i => if i = 86 + 9 * k then L else if 87 + 9 * k ≤ i ∧ i < 87 + 9 * k + n then T (i - (87 + 9 * k)) else N i
theorem wordFault_ok {σ : St} {T : Int → Int} {L : Int} {Q : Int → St → Prop} (hL : σ 53 1 = L) (h0 : 0 ≤ L) (h120 : L ≤ 120) (hT : ∀ i, 0 ≤ i → i < L → σ 54 i = T i ∧ 0 ≤ T i ∧ T i ≤ 255)
    (k1 : ∀ i, 0 ≤ i → i < L → i ≤ 8 → (∀ j, 0 ≤ j → j < i → tld (T j)) → (i = 8 ∨ ¬ tld (T i)) → Q i σ) (k2 : L = 0 → Q 0 σ) (k3 : 0 < L → L ≤ 8 → (∀ j, 0 ≤ j → j < L → tld (T j)) → Q (-1) σ) : V_Tape_wordFault σ Q := by
  unfold V_Tape_wordFault
  refine wl1 (fun i u => u = σ ∧ 0 ≤ i ∧ i ≤ L ∧ i ≤ 8 ∧ ∀ j, 0 ≤ j → j < i → tld (T j)) (fun i _ => (L - i).toNat) ⟨rfl, by omega, by omega, by decide, fun j a b => by omega⟩ ?_
  intro bk i u hI hb
  obtain ⟨rfl, i1, i2, i3, i4⟩ := hI
  rw [hL, i32_id (x := i) (by omega) (by omega), i32_id (x := L) (by omega) (by omega)]
  refine ⟨fun hc => ?_, fun hc => ⟨⟨by omega, by omega⟩, fun c hcc => ?_⟩⟩
  · have : i = L := by omega
    subst this
    exact ⟨fun z => k3 (by omega) i3 i4, fun z => k2 z⟩
  · obtain ⟨z1, z2, z3⟩ := hT i i1 hc
    rw [z1] at hcc
    rw [i32_id (x := c) (by omega) (by omega)]
    have go : tld c → i < 8 → bk (i + 1) u := fun h h8 => hb _ _ ⟨rfl, by omega, by omega, by omega, fun j a b => by
      by_cases cj : j = i
      · rw [cj, ← hcc]; exact h
      · exact i4 j a (by omega)⟩ (by omega)
    refine ⟨fun h => k1 i i1 hc i3 i4 (Or.inl (by omega)), fun h => ⟨fun q => go (Or.inl q) h, fun q1 => ⟨fun q => go (Or.inr (Or.inl q)) h, fun q2 => ⟨fun q => go (Or.inr (Or.inr (Or.inl q))) h, fun q3 => ⟨fun q => go (Or.inr (Or.inr (Or.inr q))) h, fun q4 => k1 i i1 hc i3 i4 (Or.inr (fun z => ?_))⟩⟩⟩⟩⟩
    rw [← hcc] at z
    rcases z with z | z | z | z <;> omega
theorem spellInto_ok {σ : St} {T : Int → Int} {k L : Int} {Q : St → Prop} (hk : 0 ≤ k) (hk6 : k < 6) (hL : σ 53 1 = L) (h0 : 0 ≤ L) (h8 : L ≤ 8) (hT : ∀ i, 0 ≤ i → i < L → σ 54 i = T i)
    (h : ∀ σ', (∀ j, σ' 3 j = if k * 8 ≤ j ∧ j < k * 8 + L then T (j - k * 8) else σ 3 j) → (∀ j, σ' 4 j = if j = k then L else σ 4 j) → (∀ q, q ≠ 3 → q ≠ 4 → σ' q = σ q) → Q σ') : V_Tape_spellInto σ k Q := by
  unfold V_Tape_spellInto
  refine wl1 (fun i u => 0 ≤ i ∧ i ≤ L ∧ (∀ j, u 3 j = if k * 8 ≤ j ∧ j < k * 8 + i then T (j - k * 8) else σ 3 j) ∧ ∀ q, q ≠ 3 → u q = σ q) (fun i _ => (L - i).toNat) ⟨by omega, by omega, fun j => by rw [if_neg (by omega)], fun _ _ => rfl⟩ ?_
  intro bk i u hI hb
  obtain ⟨i1, i2, i3, i4⟩ := hI
  rw [i4 53 (by decide), i4 54 (by decide), hL, i32_id (x := i) (by omega) (by omega), i32_id (x := L) (by omega) (by omega), i32_id (x := k * 8 + i) (by omega) (by omega)]
  have fin : i = L → J_Tape_spellInto_39 k Q u := by
    intro hi
    subst hi
    unfold J_Tape_spellInto_39
    rw [i4 53 (by decide), hL, i32_id (x := k) (by omega) (by omega), mni_min (i32_id (by omega) (by omega)) (i32_id (by decide) (by decide))]
    refine ⟨⟨hk, hk6⟩, fun v hv => h v (fun j => by rw [hv, ss_row _ (by decide)]; exact i3 j) (fun j => ?_) (fun q a b => by rw [hv, ss_row _ b]; exact i4 q a)⟩
    rw [hv, ss_self]
    show (if j = k then min i 8 else u 4 j) = _
    rw [i4 4 (by decide)]
    by_cases c : j = k
    · rw [if_pos c, if_pos c]; omega
    · rw [if_neg c, if_neg c]
  refine ⟨fun hc => fin (by omega), fun hc => ⟨fun hd => by omega, fun hd => ⟨⟨by omega, by omega⟩, ⟨by omega, by omega⟩, fun v hv => hb _ _ ⟨by omega, by omega, fun j => ?_, fun q a => by rw [hv, ss_row _ a]; exact i4 q a⟩ (by omega)⟩⟩⟩
  rw [hv, ss_self, hT i i1 hc]
  show (if j = k * 8 + i then T i else u 3 j) = _
  rw [i3 j]
  by_cases c : j = k * 8 + i
  · rw [if_pos c, if_pos (by omega), show j - k * 8 = i by omega]
  · rw [if_neg c]
    by_cases c2 : k * 8 ≤ j ∧ j < k * 8 + i
    · rw [if_pos c2, if_pos (by omega)]
    · rw [if_neg c2, if_neg (by omega)]
theorem isTold_ok {τ : St} {c : Int} {Q : Int → St → Prop} (hc : i32 c = c) (h1 : tld c → Q 1 τ) (h0 : ¬ tld c → Q 0 τ) : V_M_isTold τ c Q := by
  unfold V_M_isTold
  rw [hc]
  refine ⟨fun q => h1 (Or.inl q), fun q1 => ⟨fun q => h1 (Or.inr (Or.inl q)), fun q2 => ⟨fun q => h1 (Or.inr (Or.inr (Or.inl q))), fun q3 => ⟨fun q4 => h0 (fun z => ?_), fun q => h1 (Or.inr (Or.inr (Or.inr q)))⟩⟩⟩⟩
  rcases z with z | z | z | z <;> omega
theorem op_spell {σ τ : St} (hR : Rel σ τ) {a1 : Int} (r1 : i32 a1 = a1) : V_P_spell σ a1 (fun r σ' => V_M_spell τ a1 (fun r' τ' => i32 r = i32 r' ∧ Rel σ' τ')) := by
  obtain ⟨pl1, pl2, pl3⟩ := hR.pl
  have p1 := hR.2.1
  have p2 := hR.2.2.1
  obtain ⟨⟨t1, t2, t3, t4⟩, a2, a3, a4⟩ := hR.1
  have hT : ∀ i, 0 ≤ i → i < τ 0 12 → σ 54 i = τ 10 i ∧ 0 ≤ τ 10 i ∧ τ 10 i ≤ 255 := t4
  have c5 : i64 5 = 5 := i64_id (by decide) (by decide)
  unfold V_P_spell
  refine isKind_ok r1 (fun hk => ⟨fun _ => ?_, fun w => absurd w n10⟩) (fun hk => ⟨fun w => absurd z00 w, fun _ => ?_⟩)
  · -- the reference, as far as the word goes
    have mgo : ∀ (n : Int) (Q : Int → St → Prop), 0 ≤ n → n ≤ τ 0 12 → n ≤ 8 → (∀ j, 0 ≤ j → j < n → tld (τ 10 j)) → (n = τ 0 12 ∨ n = 8 ∨ ¬ tld (τ 10 n)) → J_M_spell_60 a1 Q (τ 0 12) n (ss τ 0 12 0) → V_M_spell τ a1 Q := by
      intro n Q n0 n1 n2 n3 n4 hJ
      unfold V_M_spell
      rw [r1]
      refine in_ok (i64_of32 r1) k64_0 c5 (fun _ => ⟨fun _ x hx t ht => ?_, fun w => absurd w n10⟩) (fun w => absurd (by omega) w)
      rw [hx, i32_id (x := τ 0 12) (by omega) (by omega)]
      refine wl1 (fun i u => u = ss τ 0 12 0 ∧ 0 ≤ i ∧ i ≤ n) (fun i _ => (n - i).toNat) ⟨ht, by omega, by omega⟩ ?_
      intro bk i u hI hb
      obtain ⟨rfl, i1, i2⟩ := hI
      rw [i32_id (x := i) (by omega) (by omega), ss_row _ (by decide)]
      have fin : i = n → J_M_spell_60 a1 Q (τ 0 12) i (ss τ 0 12 0) := fun e => by rw [e]; exact hJ
      refine ⟨fun hc => fin (by omega), fun hc => ⟨fun hd => fin (by omega), fun hd => ⟨⟨by omega, by omega⟩, ?_⟩⟩⟩
      have htr := t4 i i1 hc
      refine isTold_ok (i32_id (by omega) (by omega)) (fun hy => ⟨fun w => absurd w n10, fun _ => ?_⟩) (fun hn => ⟨fun _ => fin ?_, fun w => absurd z00 w⟩)
      · have hin : i < n := by
          by_cases c : i = n
          · rcases n4 with q | q | q
            · omega
            · omega
            · rw [c] at hy; exact absurd hy q
          · omega
        exact hb _ _ ⟨rfl, by omega, by omega⟩ (by omega)
      · by_cases c : i = n
        · exact c
        · exact absurd (n3 i i1 (by omega)) hn
    have flt : ∀ k, 0 ≤ k → k ≤ 8 → (k < τ 0 12 ∨ τ 0 12 = 0) → (k = 0 ∨ k ≤ τ 0 12) → (∀ j, 0 ≤ j → j < k → tld (τ 10 j)) → (k = τ 0 12 ∨ k = 8 ∨ ¬ tld (τ 10 k)) → J_P_spell_42 a1 (fun r σ' => V_M_spell τ a1 (fun r' τ' => i32 r = i32 r' ∧ Rel σ' τ')) k σ := by
      intro k k0 k1 k2 k3 k4 k5
      unfold J_P_spell_42
      rw [i32_id (x := k) (by omega) (by omega)]
      intro s hs
      refine ⟨fun _ => mgo k _ k0 (by omega) k1 k4 k5 ?_, fun w => by omega⟩
      unfold J_M_spell_60
      rw [i32_id (x := τ 0 12) (by omega) (by omega), i32_id (x := k) (by omega) (by omega)]
      have fin : i32 (-10 - k) = i32 (-10 - k) ∧ Rel s (ss τ 0 12 0) := ⟨rfl, by rw [hs]; exact hR.tape0⟩
      exact ⟨fun _ => fin, fun w => ⟨fun w2 => by omega, fun _ => fin⟩⟩
    refine wordFault_ok (T := τ 10) t1 t2 t3 hT (fun i b1 b2 b3 b4 b5 => ⟨fun _ => flt i b1 b3 (Or.inl b2) (Or.inr (by omega)) b4 (Or.inr b5), fun w => ?_⟩) (fun b1 => ⟨fun _ => flt 0 (by decide) (by decide) (Or.inr b1) (Or.inl rfl) (fun j a b => by omega) (Or.inl b1.symm), fun w => ?_⟩) (fun b1 b2 b3 => ⟨fun w => absurd (by decide) w, fun _ => ?_⟩)
    · rw [i32_id (x := i) (by omega) (by omega)] at w; omega
    · rw [z00] at w; exact absurd w (by decide)
    · refine spellInto_ok (T := τ 10) hk.1 hk.2 t1 t2 b2 (fun i a b => (hT i a b).1) (fun s s3 s4 fs => ?_)
      have eL : spN (τ 1) (τ 10) a1 (τ 0 12) (τ 0 12) (86 + 9 * a1) = τ 0 12 := by unfold spN; rw [if_pos rfl]
      have eW : ∀ i, 0 ≤ i → i < τ 0 12 → spN (τ 1) (τ 10) a1 (τ 0 12) (τ 0 12) (87 + 9 * a1 + i) = τ 10 i := fun i a b => by
        unfold spN
        rw [if_neg (by omega), if_pos (by omega), show 87 + 9 * a1 + i - (87 + 9 * a1) = i by omega]
      have eo : ∀ i, i ≠ 86 + 9 * a1 → ¬ (87 + 9 * a1 ≤ i ∧ i < 87 + 9 * a1 + τ 0 12) → spN (τ 1) (τ 10) a1 (τ 0 12) (τ 0 12) i = τ 1 i := fun i a b => by unfold spN; rw [if_neg a, if_neg b]
      have hb : planB (spN (τ 1) (τ 10) a1 (τ 0 12) (τ 0 12)) := by
        obtain ⟨h1, h2, h3, h4, h5, h6⟩ := p1.b
        refine ⟨by rw [eo 0 (by omega) (by omega)]; exact h1, by rw [eo 0 (by omega) (by omega)]; exact h2, ⟨fun k a b => by rw [eo _ (by omega) (by omega)]; exact h3.1 k a b, fun r g a b c d => by rw [eo _ (by omega) (by omega), eo _ (by omega) (by omega)]; exact h3.2 r g a b c d⟩, fun r g a b c d => ?_, fun k a b => ?_, fun t a b => by rw [eo _ (by omega) (by omega)]; exact h6 t a b⟩
        · rw [eo 0 (by omega) (by omega)] at c
          rw [eo _ (by omega) (by omega)]
          exact h4 r g a b c d
        · by_cases ck : k = a1
          · subst ck
            unfold wordOk
            rw [eL]
            refine ⟨by omega, b2, fun i a b => ?_⟩
            rw [eW i a b]
            exact b3 i a b
          · obtain ⟨w1, w2, w3⟩ := h5 k a b
            unfold wordOk
            rw [eo _ (by omega) (by omega)]
            refine ⟨w1, w2, fun i a b => ?_⟩
            rw [eo _ (by omega) (by omega)]
            exact w3 i a b
      refine anew0 (t := sf (ss τ 0 12 0) 1 (spN (τ 1) (τ 10) a1 (τ 0 12) (τ 0 12))) (c := τ 0 12) (N := spN (τ 1) (τ 10) a1 (τ 0 12) (τ 0 12)) ?_ ?_ hb ?_ (sf_at _ _ _) (fun σ' e160 e4 hM => ?_)
      · have e : ∀ k, k ≠ 1 → ss (sf (ss τ 0 12 0) 1 (spN (τ 1) (τ 10) a1 (τ 0 12) (τ 0 12))) 0 12 (τ 0 12) k = τ k := by
          intro k hk
          by_cases c0 : k = 0
          · subst c0
            rw [ss_self, sf_row _ (by decide), ss_self]
            funext j
            simp only
            by_cases cj : j = 12
            · rw [if_pos cj, cj]
            · rw [if_neg cj, if_neg cj]
          · rw [ss_row _ c0, sf_row _ hk, ss_row _ c0]
        exact (hR.1.fc (fun k hk => fs k (by omega) (by omega)) (by rw [fs 0 (by decide) (by decide)])).fm (e 2 (by decide)) (e 4 (by decide)) (e 10 (by decide)) (e 24 (by decide)) (e 25 (by decide)) (e 26 (by decide)) (by rw [e 0 (by decide)]) (by rw [e 0 (by decide)])
      · rw [sf_row _ (by decide), ss_at]
      · obtain ⟨z1, z2, z3, z4, z5, z6⟩ := p2
        refine ⟨?_, ?_, fun k x y => ?_, fun k x y => ?_, fun k x y => ?_, fun k x y => ?_⟩
        · rw [fs 1 (by decide) (by decide), eo 0 (by omega) (by omega)]; exact z1
        · rw [fs 1 (by decide) (by decide), eo 1 (by omega) (by omega)]; exact z2
        · rw [fs _ (by decide) (by decide), eo _ (by omega) (by omega)]; exact z3 k x y
        · by_cases ck : k = a1
          · subst ck
            refine ⟨?_, fun i a b => ?_⟩
            · show s 4 k = _
              rw [s4 k, if_pos rfl, eL]
            · show s 3 (k * 8 + i) = _
              rw [s3]
              by_cases ci : i < τ 0 12
              · rw [if_pos (by omega), eW i a ci, show k * 8 + i - k * 8 = i by omega]
              · rw [if_neg (by omega), eo _ (by omega) (by omega)]
                exact (z4 k x y).2 i a b
          · refine ⟨?_, fun i a b => ?_⟩
            · show s 4 k = _
              rw [s4 k, if_neg ck, eo _ (by omega) (by omega)]
              exact (z4 k x y).1
            · show s 3 (k * 8 + i) = _
              rw [s3, if_neg (by omega), eo _ (by omega) (by omega)]
              exact (z4 k x y).2 i a b
        · rw [fs _ (by decide) (by decide), eo _ (by omega) (by omega)]; exact z5 k x y
        · rw [fs _ (by decide) (by decide), eo _ (by omega) (by omega)]; exact z6 k x y
      · unfold J_P_spell_42
        intro s6 h6
        refine ⟨fun w => absurd (by decide) w, fun _ => ?_⟩
        rw [r1]
        refine ⟨hk, mgo (τ 0 12) _ t2 (by omega) b2 b3 (Or.inl rfl) ?_⟩
        unfold J_M_spell_60
        rw [i32_id (x := τ 0 12) (by omega) (by omega), i32_id (x := 86 + 9 * a1) (by omega) (by omega)]
        refine ⟨fun w => by omega, fun _ => ⟨fun _ => ⟨⟨by omega, by omega⟩, fun t9 h9 => ?_⟩, fun w => by omega⟩⟩
        refine wl1 (fun i u => 0 ≤ i ∧ i ≤ τ 0 12 ∧ u = sf (ss τ 0 12 0) 1 (spN (τ 1) (τ 10) a1 (τ 0 12) i)) (fun i _ => (τ 0 12 - i).toNat) ⟨by omega, by omega, ?_⟩ ?_
        · rw [h9]
          funext k j
          unfold ss sf spN
          by_cases hk1 : k = 1
          · subst hk1
            simp only [if_true]
            by_cases cj : j = 86 + 9 * a1
            · rw [if_pos cj, if_pos cj]
            · rw [if_neg cj, if_neg cj]
              have e0 : ¬ (87 + 9 * a1 ≤ j ∧ j < 87 + 9 * a1 + 0) := by omega
              exact (if_neg e0).symm
          · simp only [hk1, if_false]
        · intro bk i u hI hb
          obtain ⟨i1, i2, i3⟩ := hI
          rw [i32_id (x := i) (by omega) (by omega), i32_id (x := 86 + 9 * a1 + 1 + i) (by omega) (by omega)]
          refine ⟨fun hc => ?_, fun hc => ⟨⟨by omega, by omega⟩, ⟨by omega, by omega⟩, fun v hv => hb _ _ ⟨by omega, by omega, ?_⟩ (by omega)⟩⟩
          · have : i = τ 0 12 := by omega
            rw [i3, this]
            refine hM _ (fun τ' m5 mR => ⟨?_, by rw [h6]; exact mR⟩)
            rw [h6, ss_row _ (by decide), e4, s4 a1, if_pos rfl]
          · rw [hv, i3, sf_row _ (by decide), ss_row _ (by decide)]
            funext k j
            unfold ss sf spN
            by_cases hk1 : k = 1
            · subst hk1
              simp only [if_true]
              by_cases cj : j = 86 + 9 * a1 + 1 + i
              · rw [if_pos cj, if_neg (by omega), if_pos (by omega), show j - (87 + 9 * a1) = i by omega]
              · rw [if_neg cj]
                by_cases c2 : j = 86 + 9 * a1
                · rw [if_pos c2, if_pos c2]
                · rw [if_neg c2, if_neg c2]
                  by_cases c3 : 87 + 9 * a1 ≤ j ∧ j < 87 + 9 * a1 + i
                  · rw [if_pos c3, if_pos (by omega)]
                  · rw [if_neg c3, if_neg (by omega)]
            · simp only [hk1, if_false]
  · refine both_fail (e := -1000000001) hR (by decide) (by decide) (by decide) (VM := fun τ Q => V_M_spell τ a1 Q) (fun Q hQ => ?_)
    unfold V_M_spell
    rw [r1]
    exact in_ok (i64_of32 r1) k64_0 c5 (fun z => absurd (by omega) hk) (fun _ => ⟨fun w => absurd z00 w, fun _ => hQ⟩)
