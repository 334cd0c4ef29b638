theorem hWf_app {pre R : List HI} (h : hWf (pre ++ R)) : hWf R := by
  induction pre with
  | nil => exact h
  | cons x r ih => exact ih h.2.2.2.2
theorem hT_len {R : List HI} (h : hWf R) (p : Int) : hT R p ≤ R.length := by
  induction R generalizing p with
  | nil => exact Int.le_refl _
  | cons x r ih =>
    obtain ⟨h1, h2, h3, h4, h5⟩ := h
    have a := ih h5 (x.1 - 1)
    have b := ih h5 x.1
    have c := ih h5 (x.1 + 1)
    have d := ih h5 p
    unfold hT
    rw [List.length_cons]
    split
    · rw [h1]
      unfold hM
      omega
    · omega
theorem hR_len {rs : List CR} (h : crOk rs) : (hR rs).length ≤ rs.length := by
  have key : ∀ (l : List CR) (R : List HI), crOk l → hWf R → (l.foldl (fun R r => hadd R r.1 r.2.1) R).length ≤ R.length + l.length := by
    intro l
    induction l with
    | nil => intro R _ h; exact Nat.le_refl _
    | cons r l ih =>
      intro R h1 h2
      have h3 := h1 r List.mem_cons_self
      have h4 := ih _ (fun x hx => h1 x (List.mem_cons_of_mem _ hx)) (hadd_wf h2 h3.1 h3.2.1 h3.2.2)
      have h5 := hadd_len R h2 r.1 r.2.1
      rw [List.foldl_cons, List.length_cons]
      omega
  have e : hR rs = rs.foldl (fun R r => hadd R r.1 r.2.1) [] := by cases rs <;> rfl
  rw [e]
  have := key rs [] h trivial
  simp at this ⊢
  exact this
theorem hL_ge {R : List HI} (h : hWf R) {y : HI} (hy : y ∈ R) : y.2.2 + 1 ≤ hL R 15 := by
  have hm : ∀ (n : Nat) (q : Nat), q < n → hT R q ≤ hL R n := by
    intro n
    induction n with
    | zero => intro q hq; omega
    | succ n ih =>
      intro q hq
      unfold hL
      by_cases c : q = n
      · subst c; omega
      · have := ih q (by omega); omega
  have key : ∀ R : List HI, hWf R → y ∈ R → y.2.2 + 1 ≤ hT R y.1 ∧ 0 ≤ y.1 ∧ y.1 < 15 := by
    intro R h hy
    induction R with
    | nil => cases hy
    | cons x r ih =>
      obtain ⟨h1, h2, h3, h4, h5⟩ := h
      rcases List.mem_cons.mp hy with e | e
      · subst e
        unfold hT
        rw [if_pos rfl]
        exact ⟨Int.le_refl _, h3, h4⟩
      · have := ih h5 e
        unfold hT
        split
        · rename_i c
          have : hT r y.1 ≤ hM r x.1 := by rw [c]; unfold hM; omega
          omega
        · exact this
  obtain ⟨k1, k2, k3⟩ := key R h hy
  have := hm 15 y.1.toNat (by omega)
  rw [show ((y.1.toNat : Nat) : Int) = y.1 by omega] at this
  omega
theorem hL_at {R : List HI} (h : hWf R) : hL R 15 = 0 ∨ ∃ y ∈ R, y.2.2 + 1 = hL R 15 := by
  have hm : ∀ n : Nat, hL R n = 0 ∨ ∃ q : Nat, 0 < hT R q ∧ hL R n = hT R q := by
    intro n
    induction n with
    | zero => exact Or.inl rfl
    | succ n ih =>
      unfold hL
      by_cases c : hL R n < hT R n
      · have := hT_nn h n
        rcases ih with e | ⟨q, e1, e2⟩
        · exact Or.inr ⟨n, by omega, by omega⟩
        · exact Or.inr ⟨n, by omega, by omega⟩
      · have := hT_nn h n
        rcases ih with e | ⟨q, e1, e2⟩
        · exact Or.inl (by omega)
        · exact Or.inr ⟨q, e1, by omega⟩
  have key : ∀ (R : List HI) (q : Int), 0 < hT R q → ∃ y ∈ R, y.2.2 + 1 = hT R q := by
    intro R q hq
    induction R with
    | nil => exact absurd hq (by unfold hT; omega)
    | cons x r ih =>
      unfold hT at hq ⊢
      by_cases c : x.1 = q
      · rw [if_pos c]
        exact ⟨x, List.mem_cons_self, rfl⟩
      · rw [if_neg c] at hq ⊢
        obtain ⟨y, hy, e2⟩ := ih hq
        exact ⟨y, List.mem_cons_of_mem _ hy, e2⟩
  rcases hm 15 with e | ⟨q, e1, e2⟩
  · exact Or.inl e
  · obtain ⟨y, hy, e3⟩ := key R q e1
    exact Or.inr ⟨y, hy, by omega⟩
abbrev lyK : List Nat := [18, 19, 20]
theorem Mlayers_ok {τ : St} {w : AW} {Q : Int → St → Prop} (hM : MW τ w) (hcr : crOk w.2.2) (hlen : w.2.2.length ≤ 800)
    (h : ∀ τ', ML τ' (hR w.2.2).reverse → (∀ (k : Nat) (x : HI), (hR w.2.2).reverse[k]? = some x → τ' 20 k = x.2.2) → frm lyK mlJ τ τ' → Q (hL (hR w.2.2) 15) τ') : V_M_layers τ Q := by
  obtain ⟨rs, hrs⟩ : ∃ rs, rs = w.2.2 := ⟨_, rfl⟩
  obtain ⟨m1, m2, m3, m4⟩ := hM
  rw [← hrs] at hcr hlen h m3 m4
  have hW := hR_wf hcr
  have hRl := hR_len hcr
  unfold V_M_layers
  intro t1 e1
  have hsub : ∀ n, crOk (rs.take n) := fun n r hr => hcr r (List.mem_of_mem_take hr)
  refine wl1 (fun i u => ∃ n : Nat, n ≤ rs.length ∧ i = n ∧ ML u (hR (rs.take n)).reverse ∧ frm mlK mlJ τ u) (fun i _ => (rs.length - i).toNat) ⟨0, by omega, rfl, ⟨by rw [e1, ss_at]; rfl, fun k x hx => by simp [hR] at hx⟩, by rw [e1]; exact frm.s0 (by decide)⟩ ?_
  intro bk i u hI hb
  obtain ⟨n, hn, rfl, i3, i4⟩ := hI
  have u15 : u 0 15 = rs.length := by rw [i4.2 15 (by decide)]; exact m3
  rw [u15, i32_id (x := (n : Int)) (by omega) (by omega), i32_id (x := (rs.length : Int)) (by omega) (by omega)]
  refine ⟨fun hc => ?_, fun hc => ⟨⟨by omega, by omega⟩, ⟨by omega, by omega⟩, ?_⟩⟩
  · -- the layers
    have hnn : n = rs.length := by omega
    subst hnn
    rw [List.take_length] at i3
    obtain ⟨C, hC⟩ : ∃ C, C = (hR rs).reverse := ⟨_, rfl⟩
    have hR' : hR rs = C.reverse := by rw [hC, List.reverse_reverse]
    have hCl : C.length = (hR rs).length := by rw [hC, List.length_reverse]
    rw [← hC] at i3 h
    have mem : ∀ (k : Nat) (x : HI), C[k]? = some x → x ∈ hR rs := fun k x hx => by rw [hR']; exact List.mem_reverse.mpr (List.mem_of_getElem? hx)
    have lay : ∀ (k : Nat) (x : HI), C[k]? = some x → hWf (C.take k).reverse ∧ x.2.2 = hM (C.take k).reverse x.1 ∧ 0 ≤ x.1 ∧ x.1 < 15 ∧ 0 ≤ x.2.2 ∧ x.2.2 ≤ k := by
      intro k x hx
      have hk := (List.getElem?_eq_some_iff.mp hx).1
      have hxg : C[k] = x := (List.getElem?_eq_some_iff.mp hx).2
      have hsplit : hR rs = (C.drop (k + 1)).reverse ++ x :: (C.take k).reverse := by
        rw [hR']
        have h1 : C = C.take k ++ (x :: C.drop (k + 1)) := by
          rw [← hxg, List.getElem_cons_drop, List.take_append_drop]
        conv => lhs; rw [h1]
        rw [List.reverse_append, List.reverse_cons, List.append_assoc]
        rfl
      rw [hsplit] at hW
      have h2 := hWf_app hW
      obtain ⟨a1, a2, a3, a4, a5⟩ := h2
      have b1 := hT_len a5 (x.1 - 1)
      have b2 := hT_len a5 x.1
      have b3 := hT_len a5 (x.1 + 1)
      have b4 := hM_nn a5 x.1
      have b5 : (C.take k).reverse.length = k := by rw [List.length_reverse, List.length_take]; omega
      rw [b5] at b1 b2 b3
      refine ⟨a5, a1, a3, a4, by omega, ?_⟩
      rw [a1]
      unfold hM
      omega
    have fin : ∀ (y : Int) (v : St), ML v C → (∀ (j : Nat) (x : HI), C[j]? = some x → v 20 j = x.2.2) → (∀ (j : Nat) (x : HI), C[j]? = some x → x.2.2 + 1 ≤ y) → (y = 0 ∨ ∃ (j : Nat) (x : HI), C[j]? = some x ∧ y = x.2.2 + 1) → frm lyK mlJ τ v → Q y v := by
      intro y v q1 q2 q3 q4 q5
      have ey : y = hL (hR rs) 15 := by
        have g0 : 0 ≤ hL (hR rs) 15 := by
          have : ∀ n : Nat, 0 ≤ hL (hR rs) n := by
            intro n
            induction n with
            | zero => exact Int.le_refl _
            | succ n ih => unfold hL; omega
          exact this 15
        have g1 : y ≤ hL (hR rs) 15 := by
          rcases q4 with e | ⟨j, x, e1, e2⟩
          · omega
          · have := hL_ge hW (mem j x e1)
            omega
        have g2 : hL (hR rs) 15 ≤ y := by
          rcases hL_at hW with e | ⟨x, e1, e2⟩
          · rcases q4 with e3 | ⟨j, z, e3, e4⟩
            · omega
            · have := (lay j z e3).2.2.2.2.1
              omega
          · have : x ∈ C := by rw [hC]; exact List.mem_reverse.mpr e1
            obtain ⟨j, hj⟩ := List.getElem?_of_mem this
            have := q3 j x hj
            omega
        omega
      rw [ey]
      exact h v q1 q2 q5
    refine wl2 (fun i y v => ∃ n : Nat, n ≤ C.length ∧ i = n ∧ ML v C ∧ (∀ (j : Nat) (x : HI), j < n → C[j]? = some x → v 20 j = x.2.2) ∧ (∀ (j : Nat) (x : HI), j < n → C[j]? = some x → x.2.2 + 1 ≤ y) ∧ (y = 0 ∨ ∃ (j : Nat) (x : HI), j < n ∧ C[j]? = some x ∧ y = x.2.2 + 1) ∧ frm lyK mlJ τ v ∧ 0 ≤ y ∧ y ≤ 800) (fun i _ _ => (C.length - i).toNat) ⟨0, by omega, rfl, i3, fun j x hj => by omega, fun j x hj => by omega, Or.inl rfl, i4.mono (by decide) (by decide), by omega, by omega⟩ ?_
    intro bk8 i y v hI hb8
    obtain ⟨n, hn, rfl, j3, j4, j5, j6, j7, j8, j9⟩ := hI
    rw [j3.1, i32_id (x := (n : Int)) (by omega) (by omega), i32_id (x := (C.length : Int)) (by omega) (by omega)]
    refine ⟨fun hc => ?_, fun hc => ⟨⟨by omega, by omega⟩, fun v1 f1 => ?_⟩⟩
    · have : n = C.length := by omega
      subst this
      refine fin y v j3 (fun j x hx => j4 j x (List.getElem?_eq_some_iff.mp hx).1 hx) (fun j x hx => j5 j x (List.getElem?_eq_some_iff.mp hx).1 hx) ?_ j7
      rcases j6 with e | ⟨j, x, _, e2, e3⟩
      · exact Or.inl e
      · exact Or.inr ⟨j, x, e2, e3⟩
    · have hnl : n < C.length := by omega
      obtain ⟨x, hx⟩ : ∃ x, C[n]? = some x := ⟨C[n]'hnl, List.getElem?_eq_getElem hnl⟩
      obtain ⟨x1, x2, x3, x4, x5, x6⟩ := lay n x hx
      refine wl1 (fun i z => ∃ q : Nat, q ≤ n ∧ i = q ∧ ML z C ∧ (∀ (j : Nat) (x : HI), j < n → C[j]? = some x → z 20 j = x.2.2) ∧ (∀ (j : Nat) (y : HI), j < q → C[j]? = some y → (-1 ≤ y.1 - x.1 ∧ y.1 - x.1 ≤ 1) → y.2.2 + 1 ≤ z 20 n) ∧ (z 20 n = 0 ∨ ∃ (j : Nat) (y : HI), j < q ∧ C[j]? = some y ∧ (-1 ≤ y.1 - x.1 ∧ y.1 - x.1 ≤ 1) ∧ z 20 n = y.2.2 + 1) ∧ frm lyK mlJ τ z ∧ 0 ≤ z 20 n ∧ z 20 n ≤ 800) (fun i _ => (n - i).toNat) ⟨0, by omega, rfl, ?_, ?_, fun j y hj => by omega, Or.inl (by rw [f1, ss_at]), by rw [f1]; exact j7.tr (frm.sk (by decide) (by decide)), by rw [f1, ss_at]; omega, by rw [f1, ss_at]; omega⟩ ?_
      · rw [f1]
        refine ⟨by rw [ss_row _ (by decide)]; exact j3.1, fun k z hz => ?_⟩
        rw [ss_row _ (by decide), ss_row _ (by decide)]
        exact j3.2 k z hz
      · intro j z hj hz
        rw [f1, ss_ne _ _ (by omega)]
        exact j4 j z hj hz
      · intro bk12 i z hI hb12
        obtain ⟨q, hq, rfl, l3, l4, l5, l6, l7, l8, l9⟩ := hI
        rw [i32_id (x := (q : Int)) (by omega) (by omega), i32_id (x := y) (by omega) (by omega), i32_id (x := z 20 n) (by omega) (by omega)]
        refine ⟨fun hc2 => ⟨⟨by omega, by omega⟩, ?_⟩, fun hc2 => ⟨⟨by omega, by omega⟩, ⟨by omega, by omega⟩, ?_⟩⟩
        · have hqn : q = n := by omega
          subst hqn
          -- the layer is right
          have ev : z 20 q = x.2.2 := by
            rw [x2]
            have g1 : z 20 q ≤ hM (C.take q).reverse x.1 := by
              rcases l6 with e | ⟨j, y', e1, e2, e3, e4⟩
              · have := hM_nn x1 x.1
                omega
              · have hm : y' ∈ (C.take q).reverse := by
                  refine List.mem_reverse.mpr (List.mem_of_getElem? (i := j) ?_)
                  rw [List.getElem?_take, if_pos e1]
                  exact e2
                have := hM_ge x1 hm e3
                omega
            have g2 : hM (C.take q).reverse x.1 ≤ z 20 q := by
              by_cases c0 : 0 < hM (C.take q).reverse x.1
              · obtain ⟨y', hm, ha, he⟩ := hM_at x1 c0
                obtain ⟨j, hj⟩ := List.getElem?_of_mem (List.mem_reverse.mp hm)
                have hjq : j < q := by
                  have := (List.getElem?_eq_some_iff.mp hj).1
                  rw [List.length_take] at this
                  omega
                rw [List.getElem?_take, if_pos hjq] at hj
                have := l5 j y' hjq hj ha
                omega
              · omega
            omega
          have step : ∀ y' : Int, (∀ (j : Nat) (x : HI), j < q + 1 → C[j]? = some x → x.2.2 + 1 ≤ y') → (y' = 0 ∨ ∃ (j : Nat) (x : HI), j < q + 1 ∧ C[j]? = some x ∧ y' = x.2.2 + 1) → 0 ≤ y' → y' ≤ 800 → bk8 (↑q + 1) y' z := by
            intro y' s1 s2 s3 s4
            refine hb8 _ _ _ ⟨q + 1, by omega, by omega, l3, fun j x' hj hx' => ?_, s1, s2, l7, s3, s4⟩ (by omega)
            by_cases c : j = q
            · subst c
              rw [hx] at hx'
              cases hx'
              exact ev
            · exact l4 j x' (by omega) hx'
          refine ⟨fun hd => step y (fun j x' hj hx' => ?_) ?_ j8 j9, fun hd => ⟨⟨by omega, by omega⟩, fun y' hy' => step y' (fun j x' hj hx' => ?_) ?_ (by omega) (by omega)⟩⟩
          · by_cases c : j = q
            · subst c
              rw [hx] at hx'
              cases hx'
              omega
            · exact j5 j x' (by omega) hx'
          · rcases j6 with e | ⟨j, x', e1, e2, e3⟩
            · exact Or.inl e
            · exact Or.inr ⟨j, x', by omega, e2, e3⟩
          · by_cases c : j = q
            · subst c
              rw [hx] at hx'
              cases hx'
              omega
            · have := j5 j x' (by omega) hx'
              omega
          · exact Or.inr ⟨q, x, by omega, hx, by omega⟩
        · have hql : q < C.length := by omega
          obtain ⟨y', hy'⟩ : ∃ y', C[q]? = some y' := ⟨C[q]'hql, List.getElem?_eq_getElem hql⟩
          obtain ⟨_, _, z3, z4, z5, z6⟩ := lay q y' hy'
          intro d hd
          rw [(l3.2 q y' hy').1, (l3.2 n x hx).1] at hd
          rw [l4 q y' (by omega) hy', i32_id (x := d) (by omega) (by omega), i32_id (x := y'.2.2) (by omega) (by omega)]
          have keep : (¬ (-1 ≤ y'.1 - x.1 ∧ y'.1 - x.1 ≤ 1) ∨ y'.2.2 < z 20 n) → bk12 (↑q + 1) z := by
            intro hno
            refine hb12 _ _ ⟨q + 1, by omega, by omega, l3, l4, fun j w' hj hw' ha => ?_, ?_, l7, l8, l9⟩ (by omega)
            · by_cases c : j = q
              · subst c
                rw [hy'] at hw'
                cases hw'
                rcases hno with e | e
                · exact absurd ha e
                · omega
              · exact l5 j w' (by omega) hw' ha
            · rcases l6 with e | ⟨j, w', e1, e2⟩
              · exact Or.inl e
              · exact Or.inr ⟨j, w', by omega, e2⟩
          refine ⟨fun h1 => keep (Or.inl (by omega)), fun h1 => ⟨fun h2 => keep (Or.inl (by omega)), fun h2 => ⟨⟨by omega, by omega⟩, ⟨by omega, by omega⟩, fun h3 => keep (Or.inr h3), fun h3 => ⟨⟨by omega, by omega⟩, ⟨by omega, by omega⟩, fun z1 g1 => ?_⟩⟩⟩⟩
          have zn : z1 20 n = y'.2.2 + 1 := by rw [g1, ss_at]
          refine hb12 _ _ ⟨q + 1, by omega, by omega, ?_, fun j w' hj hw' => ?_, fun j w' hj hw' ha => ?_, ?_, ?_, by omega, by omega⟩ (by omega)
          · rw [g1]
            refine ⟨by rw [ss_row _ (by decide)]; exact l3.1, fun k z hz => ?_⟩
            rw [ss_row _ (by decide), ss_row _ (by decide)]
            exact l3.2 k z hz
          · rw [g1, ss_ne _ _ (by omega)]
            exact l4 j w' hj hw'
          · rw [zn]
            by_cases c : j = q
            · subst c
              rw [hy'] at hw'
              cases hw'
              omega
            · have := l5 j w' (by omega) hw' ha
              omega
          · exact Or.inr ⟨q, y', by omega, hy', by omega, zn⟩
          · rw [g1]; exact l7.tr (frm.sk (by decide) (by decide))
  · have hnl : n < rs.length := by omega
    obtain ⟨r, hr⟩ : ∃ r, rs[n]? = some r := ⟨rs[n]'hnl, List.getElem?_eq_getElem hnl⟩
    have hrr := hcr r (List.mem_of_getElem? hr)
    obtain ⟨r1, r2, -⟩ := m4 n r hr
    have u13 : u 13 = τ 13 := i4.1 13 (by decide) (by decide)
    have u14 : u 14 = τ 14 := i4.1 14 (by decide) (by decide)
    rw [u13, u14, r1, r2]
    have hl := hR_len (hsub n)
    rw [List.length_take] at hl
    refine Mcomes_ok i3 (hR_wf (hsub n)) (by omega) hrr.1 hrr.2.1 hrr.2.2 (fun u' q1 q2 => ?_)
    refine hb _ _ ⟨n + 1, by omega, by omega, ?_, i4.tr q2⟩ (by omega)
    have e5 : rs.take (n + 1) = rs.take n ++ [r] := by
      rw [List.take_add_one, hr]
      rfl
    rw [e5, hR_snoc]
    exact q1
theorem MsignIn_ok {τ : St} {R : List HI} {l p : Int} {Q : Int → St → Prop} (hW : hWf R) (hM : ML τ R.reverse) (hL : ∀ (k : Nat) (x : HI), R.reverse[k]? = some x → τ 20 k = x.2.2) (hlen : R.length ≤ 800) (hl : i32 l = l) (hp : i32 p = p) (h : Q (sg R l p) τ) : V_M_signIn τ l p Q := by
  obtain ⟨C, hC⟩ : ∃ C, C = R.reverse := ⟨_, rfl⟩
  have hCl : C.length = R.length := by rw [hC, List.length_reverse]
  rw [← hC] at hM hL
  have mem : ∀ (k : Nat) (x : HI), C[k]? = some x → x ∈ R := fun k x hx => by
    rw [hC] at hx
    exact List.mem_reverse.mp (List.mem_of_getElem? hx)
  unfold V_M_signIn
  refine wl1 (fun i u => u = τ ∧ ∃ n : Nat, n ≤ C.length ∧ i = n ∧ ∀ (j : Nat) (x : HI), j < n → C[j]? = some x → ¬ (x.1 = p ∧ x.2.2 = l)) (fun i _ => (C.length - i).toNat) ⟨rfl, 0, by omega, rfl, fun j x hj => by omega⟩ ?_
  intro bk i u hI hb
  obtain ⟨rfl, n, hn, rfl, i3⟩ := hI
  rw [hM.1, i32_id (x := (n : Int)) (by omega) (by omega), i32_id (x := (C.length : Int)) (by omega) (by omega), hl, hp]
  refine ⟨fun hc => ?_, fun hc => ⟨⟨by omega, by omega⟩, ?_⟩⟩
  · have : n = C.length := by omega
    subst this
    by_cases c : sg R l p = 0
    · rw [c] at h
      exact h
    · obtain ⟨y, hy, e1, e2, e3⟩ := sg_ex c
      have : y ∈ C := by rw [hC]; exact List.mem_reverse.mpr hy
      obtain ⟨j, hj⟩ := List.getElem?_of_mem this
      exact absurd ⟨e1, e2⟩ (i3 j y (List.getElem?_eq_some_iff.mp hj).1 hj)
  · have hnl : n < C.length := by omega
    obtain ⟨x, hx⟩ : ∃ x, C[n]? = some x := ⟨C[n]'hnl, List.getElem?_eq_getElem hnl⟩
    have hxm := mem n x hx
    have hr : 0 ≤ x.1 ∧ x.1 < 15 ∧ 0 ≤ x.2.2 ∧ x.2.2 < 800 := by
      have h1 := sg_mem hW hxm
      have h2 := sg_rng hW (l := x.2.2) (p := x.1) (by
        rw [h1]
        have key : ∀ R : List HI, hWf R → x ∈ R → x.2.1 = 1 ∨ x.2.1 = 2 := by
          intro R h hx
          induction R with
          | nil => cases hx
          | cons y r ih =>
            rcases List.mem_cons.mp hx with e | e
            · subst e; exact h.2.1
            · exact ih h.2.2.2.2 e
        have := key R hW hxm
        omega)
      have h3 := hT_len hW x.1
      omega
    rw [(hM.2 n x hx).1, (hM.2 n x hx).2, hL n x hx, i32_id (x := x.1) (by omega) (by omega), i32_id (x := x.2.2) (by omega) (by omega)]
    have next : ¬ (x.1 = p ∧ x.2.2 = l) → bk ((n : Int) + 1) u := by
      intro hno
      refine hb _ _ ⟨rfl, n + 1, by omega, by omega, fun j y hj hy => ?_⟩ (by omega)
      by_cases c : j = n
      · subst c
        rw [hx] at hy
        cases hy
        exact hno
      · exact i3 j y (by omega) hy
    refine ⟨fun h1 => next (fun z => h1 z.1), fun h1 => ⟨⟨by omega, by omega⟩, fun h2 => next (fun z => h2 z.2), fun h2 => ⟨⟨by omega, by omega⟩, ?_⟩⟩⟩
    have := sg_mem hW hxm
    rw [h1, h2] at this
    rw [← this]
    exact h
