-- STITCHES
theorem Rel.w22 {σ σ' τ : St} (h : Rel σ τ) (f : cfr 22 22 σ σ') : Rel σ' τ := by
  obtain ⟨a, p1, p2, p3, p4, p5, p6, p7, p8⟩ := h
  have e0 : σ' 0 = σ 0 := f 0 (by omega)
  refine ⟨a.fc (fun k h => f k (by omega)) (by rw [e0]), p1, p2.fr (fun k x y => f k (by omega)), p3.fe (fun k x y => f k (by omega)), p4, p5.fe (fun k x y => f k (by omega)), by rw [e0]; exact p6, ?_, ?_⟩
  · unfold thR
    rw [e0]
    rcases p7 with q | ⟨q1, q2, q3⟩
    · exact Or.inl q
    · exact Or.inr ⟨q1, q2, q3.fe (fun k x y => f k (by omega))⟩
  · unfold wyR
    rw [f 23 (by omega)]
    rcases p8 with q | ⟨q1, q2⟩
    · exact Or.inl q
    · exact Or.inr ⟨q1, q2.fe (fun k x y => f k (by omega))⟩
theorem op_stitches {σ τ : St} (hR : Rel σ τ) {a1 : Int} (r1 : i32 a1 = a1) : V_P_stitches σ a1 (fun r σ' => V_M_stitches τ a1 (fun r' τ' => i32 r = i32 r' ∧ Rel σ' τ')) := by
  obtain ⟨p1, p2, p3, p4, p5, p6, p7, p8⟩ := hR.2
  obtain ⟨o1, o2, o3, o4⟩ := stS_ok p1
  have q7 := p1.2.2.2.2.2.2.1
  obtain ⟨w1, w2, w3⟩ := ws_bits p1 (τ 1 1).toNat (by omega)
  unfold V_P_stitches
  rw [r1]
  refine ⟨fun z => ?_, fun z => ?_, fun z => ?_, fun z => ?_, fun z => ?_, fun z => ?_, fun z => ?_, fun z => ?_⟩
  · unfold V_M_stitches
    rw [r1]
    refine ⟨fun y => ?_, fun y => ?_, fun y => ?_, fun y => ?_, fun y => ?_, fun y => ?_, fun y => ?_, fun y => ?_⟩ <;> first | (exfalso; omega) | skip
    exact ⟨by rw [p3.1, p4.1], hR⟩
  · unfold V_M_stitches
    rw [r1]
    refine ⟨fun y => ?_, fun y => ?_, fun y => ?_, fun y => ?_, fun y => ?_, fun y => ?_, fun y => ?_, fun y => ?_⟩ <;> first | (exfalso; omega) | skip
    exact Mdeep_ok p1 p4 ⟨by rw [p3.2.1], hR⟩
  · refine longestChain_ok p3 o1 o2 ?_
    unfold V_M_stitches
    rw [r1]
    refine ⟨fun y => ?_, fun y => ?_, fun y => ?_, fun y => ?_, fun y => ?_, fun y => ?_, fun y => ?_, fun y => ?_⟩ <;> first | (exfalso; omega) | skip
    exact Mchain_ok p4 o1 o2 ⟨rfl, hR⟩
  · refine widest_ok p3 o1 o3 o4 o2 (fun w σ' hw hs f => ?_)
    unfold V_M_stitches
    rw [r1]
    refine ⟨fun y => ?_, fun y => ?_, fun y => ?_, fun y => ?_, fun y => ?_, fun y => ?_, fun y => ?_, fun y => ?_⟩ <;> first | (exfalso; omega) | skip
    exact Mwide_ok p4 o3 o2 (fun w' τ' hw' hs' f' => ⟨by rw [wdS_uq hs hs'], (hR.w22 f).fm (f'.mono (by decide) (by decide))⟩)
  · rw [p6, w1]
    refine countFree_ok p3 o3 o2 w2 ?_
    unfold V_M_stitches
    rw [r1]
    refine ⟨fun y => ?_, fun y => ?_, fun y => ?_, fun y => ?_, fun y => ?_, fun y => ?_, fun y => ?_, fun y => ?_⟩ <;> first | (exfalso; omega) | skip
    exact MfreeMany_ok p1 p4 ⟨rfl, hR⟩
  · unfold V_M_stitches
    rw [r1]
    refine ⟨fun y => ?_, fun y => ?_, fun y => ?_, fun y => ?_, fun y => ?_, fun y => ?_, fun y => ?_, fun y => ?_⟩ <;> first | (exfalso; omega) | skip
    exact ⟨by rw [p2.2.1], hR⟩
  · rw [p6, w1]
    refine leastFree_ok p3 o3 o2 w2 (fun r hr => ?_)
    have rr : -1 ≤ r ∧ r < 48 := by
      rcases hr with ⟨e, -⟩ | ⟨n, n1, n2, -⟩ <;> omega
    unfold V_P_noneIfBelow0
    rw [i32_id (x := r) (by omega) (by omega)]
    refine ⟨fun hc => ?_, fun hc => ?_⟩
    · unfold V_M_stitches
      rw [r1]
      refine ⟨fun y => ?_, fun y => ?_, fun y => ?_, fun y => ?_, fun y => ?_, fun y => ?_, fun y => ?_, fun y => ?_⟩ <;> first | (exfalso; omega) | skip
      refine MleastFree_ok p1 p4 (fun r' hr' => ?_)
      rw [← lf_uq hr hr', i32_id (x := r) (by omega) (by omega)]
      refine ⟨fun _ => MleastFree_ok p1 p4 (fun r'' hr'' => ?_), fun z => absurd hc (by omega)⟩
      exact ⟨by rw [← lf_uq hr hr'']; exact (i32_id (by omega) (by omega)).symm, hR⟩
    · refine both_fail (e := -1000000002) hR (by decide) (by decide) (by decide) (VM := fun τ Q => V_M_stitches τ a1 Q) (fun Q hQ => ?_)
      unfold V_M_stitches
      rw [r1]
      refine ⟨fun y => ?_, fun y => ?_, fun y => ?_, fun y => ?_, fun y => ?_, fun y => ?_, fun y => ?_, fun y => ?_⟩ <;> first | (exfalso; omega) | skip
      refine MleastFree_ok p1 p4 (fun r' hr' => ?_)
      rw [← lf_uq hr hr', i32_id (x := r) (by omega) (by omega)]
      exact ⟨fun z => absurd hc (by omega), fun _ => hQ⟩
  · refine both_fail (e := -1000000001) hR (by decide) (by decide) (by decide) (VM := fun τ Q => V_M_stitches τ a1 Q) (fun Q hQ => ?_)
    unfold V_M_stitches
    rw [r1]
    refine ⟨fun y => ?_, fun y => ?_, fun y => ?_, fun y => ?_, fun y => ?_, fun y => ?_, fun y => ?_, fun y => ?_⟩ <;> first | (exfalso; omega) | skip
    exact hQ
