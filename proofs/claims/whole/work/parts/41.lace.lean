-- LACE, LAYER
def whA (N : Int → Int) (a : Int) : AW := if a = 0 then wkA N else alA N (stS N).length
theorem whA_g {N : Int → Int} (h : planOk N) (a : Int) : awG (whA N a) ∧ (whA N a).2.2.length ≤ 768 := by
  unfold whA
  split
  · exact wkA_g h
  · exact alA_g h _ (by omega)
theorem weaveOf_ok {σ τ : St} (hR : Rel σ τ) {a : Int} {Q : Nat → St → Prop} (ha : a = 0 ∨ a = 1) (k : ∀ (o : Nat) (σ' : St), isWeave o → Rel σ' τ → CW σ' o (whA (τ 1) a) → Q o σ') : V_P_weaveOf σ a Q := by
  obtain ⟨l1, l2, l3⟩ := len_GC hR
  unfold V_P_weaveOf
  rw [i32_id (x := a) (by omega) (by omega), l1]
  refine ⟨fun h => think_ok hR (by omega) (by omega) (fun s hs c f => k 41 s (Or.inr rfl) hs ?_), fun h => k 29 σ (Or.inl rfl) hR ?_⟩
  · unfold whA
    rw [if_neg h, show ((stS (τ 1)).length : Int).toNat = (stS (τ 1)).length by omega] at *
    exact c
  · unfold whA
    rw [if_pos h]
    exact hR.2.2.2.2.2.1
theorem Mwhole_ok {σ τ : St} (hR : Rel σ τ) {a : Int} {Q : St → Prop} (ha : a = 0 ∨ a = 1) (k : ∀ v, MW v (whA (τ 1) a) → frm mwK mwJ τ v → Q v) : V_M_whole τ a Q := by
  obtain ⟨l1, l2, l3⟩ := len_GC hR
  unfold V_M_whole
  rw [i32_id (x := a) (by omega) (by omega), l2]
  refine ⟨fun h => Mfirst' hR (by omega) (by omega) (fun v m g => k v ?_ g), fun h => Mwork hR (fun v m g => k v ?_ g)⟩
  · unfold whA
    rw [if_neg h]
    exact m
  · unfold whA
    rw [if_pos h]
    exact m
theorem ly_sc {τ τ' : St} (f : frm lyK mlJ τ τ') : frm scK scJ τ τ' := f.mono (by decide) (by decide)
theorem op_lace {σ τ : St} (hRel : Rel σ τ) {a1 a2 : Int} (r1 : i32 a1 = a1) (r2 : i32 a2 = a2) : V_P_lace σ a1 a2 (fun r σ' => V_M_lace τ a1 a2 (fun r' τ' => i32 r = i32 r' ∧ Rel σ' τ')) := by
  have p1 := hRel.2.1
  have c3 : i64 3 = 3 := i64_id (by decide) (by decide)
  have bad : ¬ (0 ≤ a1 ∧ a1 ≤ 1 ∧ 0 ≤ a2 ∧ a2 ≤ 3) → V_P_fail σ 1 (fun r σ' => V_M_lace τ a1 a2 (fun r' τ' => i32 r = i32 r' ∧ Rel σ' τ')) := by
    intro hc
    refine both_fail (e := -1000000001) hRel (by decide) (by decide) (by decide) (VM := fun τ Q => V_M_lace τ a1 a2 Q) (fun Q hQ => ?_)
    unfold V_M_lace
    rw [r1, r2]
    refine in_ok (i64_of32 r1) k64_0 k64_1 (fun z => ⟨fun w => absurd w n10, fun _ => ?_⟩) (fun _ => ⟨fun _ => hQ, fun w => absurd z00 w⟩)
    exact in_ok (i64_of32 r2) k64_0 c3 (fun y => absurd (by omega) hc) (fun _ => ⟨fun w => absurd z00 w, fun _ => hQ⟩)
  unfold V_P_lace
  rw [r1, r2]
  refine ⟨fun z => bad (by omega), fun z => ⟨fun y => bad (by omega), fun y => ⟨fun z2 => bad (by omega), fun z2 => ⟨fun y2 => ?_, fun y2 => bad (by omega)⟩⟩⟩⟩
  obtain ⟨wg, wl⟩ := whA_g p1 a1
  refine weaveOf_ok hRel (by omega) (fun o s ho hs c => ⟨ho, ?_⟩)
  have hWf := hR_wf wg.2.1
  have hp := c.2.2.2.2
  have hlen := hR_len wg.2.1
  have mgo : ∀ r : Int, (a2 = 0 → r = (whA (τ 1) a1).2.2.length) → (a2 = 1 → r = (hR (whA (τ 1) a1).2.2).length) → (a2 = 2 → r = hL (hR (whA (τ 1) a1).2.2) 15) → (a2 = 3 → r = hC (hR (whA (τ 1) a1).2.2) 1) → V_M_lace τ a1 a2 (fun r' τ' => i32 r = i32 r' ∧ Rel s τ') := by
    intro r b0 b1 b2 b3
    unfold V_M_lace
    rw [r1, r2]
    refine in_ok (i64_of32 r1) k64_0 k64_1 (fun _ => ⟨fun w => absurd w n10, fun _ => ?_⟩) (fun w => absurd ⟨z, y⟩ w)
    refine in_ok (i64_of32 r2) k64_0 c3 (fun _ => ⟨fun _ => ?_, fun w => absurd w n10⟩) (fun w => absurd ⟨z2, y2⟩ w)
    refine Mwhole_ok hRel (by omega) (fun v m g => Mlayers_ok m wg.2.1 (by omega) (fun v2 ml _ g2 => ?_))
    obtain ⟨R, hRR⟩ : ∃ R, R = hR (whA (τ 1) a1).2.2 := ⟨_, rfl⟩
    rw [← hRR] at ml hlen b1 b2 b3 hWf ⊢
    have hv : Rel s v2 := hs.fm ((mw_sc g).tr (ly_sc g2))
    have e15 : v2 0 15 = (whA (τ 1) a1).2.2.length := by rw [g2.2 15 (by decide)]; exact m.2.2.1
    have ml' : ML v2 R.reverse := ml
    have hRl : R.reverse.length = R.length := List.length_reverse
    have e21 : v2 0 21 = R.length := by rw [ml'.1, hRl]
    have cc : ∀ k, 0 ≤ hC (R.reverse.take k) 1 := fun k => by unfold hC; omega
    refine wl2 (fun i y u => u = v2 ∧ ∃ k : Nat, k ≤ R.length ∧ i = k ∧ y = hC (R.reverse.take k) 1) (fun i _ _ => (R.length - i).toNat) ⟨rfl, 0, by omega, rfl, by simp [hC]⟩ ?_
    intro bk i y u hI hb
    obtain ⟨rfl, k, hk, rfl, rfl⟩ := hI
    rw [e21, i32_id (x := (k : Int)) (by omega) (by omega), i32_id (x := (R.length : Int)) (by omega) (by omega)]
    refine ⟨fun hc => ⟨fun n0 => ⟨fun n1 => ⟨fun n2 => ⟨?_, hv⟩, fun e2 => ⟨by rw [b2 e2], hv⟩⟩, fun e1 => ⟨by rw [b1 e1], hv⟩⟩, fun e0 => ⟨by rw [b0 e0, e15], hv⟩⟩, fun hc => ⟨⟨by omega, by omega⟩, ?_⟩⟩
    · have hkl : k = R.reverse.length := by omega
      rw [b3 (by omega), hkl, List.take_length]
      unfold hC
      rw [List.countP_reverse]
    · have hkl : k < R.reverse.length := by omega
      obtain ⟨x, hx⟩ : ∃ x, R.reverse[k]? = some x := ⟨R.reverse[k]'hkl, List.getElem?_eq_getElem hkl⟩
      have h19 := (ml'.2 k _ hx).2
      have hmem : x ∈ R := List.mem_reverse.mp (List.mem_of_getElem? hx)
      have hsg := sg_mem hWf hmem
      have h012 := sg_01 hWf x.2.2 x.1
      rw [hsg] at h012
      have e5 : hC (R.reverse.take (k + 1)) 1 = hC (R.reverse.take k) 1 + (if x.2.1 = 1 then 1 else 0) := by
        unfold hC
        rw [List.take_add_one, hx, List.countP_append]
        by_cases c : x.2.1 = 1 <;> simp [c]
      rw [h19, i32_id (x := x.2.1) (by omega) (by omega)]
      refine ⟨fun h y' hy' => hb _ _ _ ⟨rfl, k + 1, by omega, by omega, by rw [hy', e5, if_neg h]⟩ (by omega), fun h y' hy' => hb _ _ _ ⟨rfl, k + 1, by omega, by omega, by rw [hy', e5, if_pos h]⟩ (by omega)⟩
  refine ⟨fun e => mgo _ (fun _ => c.2.2.2.1) (fun w => by omega) (fun w => by omega) (fun w => by omega), fun e => mgo _ (fun w => by omega) (fun _ => hp.1) (fun w => by omega) (fun w => by omega), fun e => HeapLayers_ok hp hWf (mgo _ (fun w => by omega) (fun w => by omega) (fun _ => rfl) (fun w => by omega)), fun e => HeapCount_ok hp hWf (mgo _ (fun w => by omega) (fun w => by omega) (fun w => by omega) (fun _ => rfl))⟩
theorem op_layer {σ τ : St} (hRel : Rel σ τ) {a1 a2 a3 : Int} (r1 : i32 a1 = a1) (r2 : i32 a2 = a2) (r3 : i32 a3 = a3) : V_P_layer σ a1 a2 a3 (fun r σ' => V_M_layer τ a1 a2 a3 (fun r' τ' => i32 r = i32 r' ∧ Rel σ' τ')) := by
  obtain ⟨pl1, pl2, pl3⟩ := hRel.pl
  have p1 := hRel.2.1
  have i2n : i32 (2 * τ 1 0 - 2) = 2 * τ 1 0 - 2 := i32_id (by omega) (by omega)
  have bad : ¬ (0 ≤ a1 ∧ a1 ≤ 1 ∧ 0 ≤ a2 ∧ 0 ≤ a3 ∧ a3 ≤ 2 * τ 1 0 - 2) → V_P_fail σ 1 (fun r σ' => V_M_layer τ a1 a2 a3 (fun r' τ' => i32 r = i32 r' ∧ Rel σ' τ')) := by
    intro hc
    refine both_fail (e := -1000000001) hRel (by decide) (by decide) (by decide) (VM := fun τ Q => V_M_layer τ a1 a2 a3 Q) (fun Q hQ => ?_)
    unfold V_M_layer
    dsimp only [V_M_threads]
    rw [r1, r2, r3]
    refine in_ok (i64_of32 r1) k64_0 k64_1 (fun z => ⟨fun w => absurd w n10, fun _ => ⟨fun _ => hQ, fun z2 => ?_⟩⟩) (fun _ => ⟨fun _ => hQ, fun w => absurd z00 w⟩)
    rw [i2n]
    exact in_ok (i64_of32 r3) k64_0 (i64_id (by omega) (by omega)) (fun y => absurd (by omega) hc) (fun _ => ⟨fun w => absurd z00 w, fun _ => hQ⟩)
  unfold V_P_layer
  rw [r1, r2, r3, pl1, i2n]
  refine ⟨fun z => bad (by omega), fun z => ⟨fun y => bad (by omega), fun y => ⟨fun z2 => bad (by omega), fun z2 => ⟨fun z3 => bad (by omega), fun z3 => ⟨fun y3 => ?_, fun y3 => bad (by omega)⟩⟩⟩⟩⟩
  obtain ⟨wg, wl⟩ := whA_g p1 a1
  refine weaveOf_ok hRel (by omega) (fun o s ho hs c => ⟨ho, ?_⟩)
  have hWf := hR_wf wg.2.1
  have hp := c.2.2.2.2
  have hlen := hR_len wg.2.1
  have mgo : V_M_layer τ a1 a2 a3 (fun r' τ' => i32 (sg (hR (whA (τ 1) a1).2.2) a2 a3) = i32 r' ∧ Rel s τ') := by
    unfold V_M_layer
    dsimp only [V_M_threads]
    rw [r1, r2, r3]
    refine in_ok (i64_of32 r1) k64_0 k64_1 (fun _ => ⟨fun w => absurd w n10, fun _ => ⟨fun w => by omega, fun _ => ?_⟩⟩) (fun w => absurd ⟨z, y⟩ w)
    rw [i2n]
    refine in_ok (i64_of32 r3) k64_0 (i64_id (by omega) (by omega)) (fun _ => ⟨fun _ => ?_, fun w => absurd w n10⟩) (fun w => absurd ⟨z3, y3⟩ w)
    refine Mwhole_ok hRel (by omega) (fun v m g => Mlayers_ok m wg.2.1 (by omega) (fun v2 ml m20 g2 => ?_))
    exact MsignIn_ok hWf ml m20 (by omega) r2 r3 ⟨rfl, hs.fm ((mw_sc g).tr (ly_sc g2))⟩
  unfold V_Heap_signAt
  rw [r2]
  refine ⟨fun h => ?_, fun h => ?_⟩
  · have e : sg (hR (whA (τ 1) a1).2.2) a2 a3 = 0 := sg_ge hWf (by have := hp.2.2.2 a3; omega)
    rw [e] at mgo
    exact mgo
  · rw [i32_id (x := a2 * 15 + a3) (by omega) (by omega)]
    refine ⟨⟨by omega, by omega⟩, ?_⟩
    have e : s (o + 9 + 1) (a2 * 15 + a3) = sg (hR (whA (τ 1) a1).2.2) a2 a3 := hp.2.1 a2 a3 z2 h z3 (by omega)
    rw [e]
    exact mgo
