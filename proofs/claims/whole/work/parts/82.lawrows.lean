-- THE LAW: two worlds side by side
theorem i32_to (x : Int32) : i32 x.toInt = x.toInt := by unfold i32; rw [ofi]
theorem i64_to (x : Int64) : i64 x.toInt = x.toInt := by unfold i64; rw [ofl]
theorem i64_lro (a b : Int) : i64 (lro a b) = lro a b := i64_to _
theorem ian63 (a : Int) : 0 ≤ i32 (ian a 63) ∧ i32 (ian a 63) ≤ 63 := by
  have e : (Int32.ofInt a &&& Int32.ofInt 63).toBitVec.toNat ≤ 63 := by
    rw [Int32.toBitVec_and, BitVec.toNat_and]
    have h2 : (Int32.ofInt 63).toBitVec.toNat = 63 := by decide
    rw [h2]
    exact Nat.and_le_right
  have h : ian a 63 = ((Int32.ofInt a &&& Int32.ofInt 63).toBitVec.toNat : Int) := by
    unfold ian
    exact ti32 (by omega)
  rw [h, i32_id (by omega) (by omega)]
  omega
section LWR
variable {p : Program} {l : Launch} {e : Env} {R : Room} {s : State} {m : MethodId} {args : Array Value} {below : List Frame} {meth : Method} {c : Code} {H : Heap} {locs : List Loc} {cells slots : Nat} {Q : State → Prop}
variable {cc : ByteArray} {nL : Nat} {Ts : List Cond} {own : String} {pc : Nat} {ls : Array Slot} {rest st : List Value} {cl : List vw_C} {G : GT} {L L2 : List LC} {ad ad2 : Nat → Nat} {A : Nat → Prop} {σ τ : St}
variable {C : String} {y : MethodName} {bytes : ByteArray} {maxL n index : Nat} {ret : Option FieldType} {ws : List Cond} {rm : Room} {o ci N : Nat} {fs : List (Nat ⊕ Bool)} {T : u_T}
theorem Wy.other {H1 : Heap} {locs1 : List Loc} (hw2 : Wy cl G L2 ad2 A s H locs τ) (hdis : ∀ i, i < L.length → ∀ j, j < L2.length → ad i ≠ ad2 j) (hk : ∀ q : Nat, q < H.size → ¬ Ax L ad q → H1[q]? = H[q]?) (hS : va_S A s.heap H1 locs1) : Wy cl G L2 ad2 A s H1 locs1 τ := by
  refine ⟨hw2.1, hw2.2.1, hw2.2.2.1.kept (fun k x hx => hk x.1 ((hw2.2.2.1 k x hx).lt) (fun z => ?_)), hS⟩
  obtain ⟨i, hi, e1⟩ := z
  unfold wd at hx
  rw [List.getElem?_mapIdx] at hx
  cases hc : L2[k]? with
  | none => rw [hc] at hx; cases hx
  | some c =>
    rw [hc] at hx
    cases hx
    exact hdis i hi k (List.getElem?_eq_some_iff.mp hc).1 e1.symm
theorem x_cvi2 {P : Int → St → Prop} (X : CallFix p m c cc nL s args Ts own) (hw : Wy cl G L ad A s H locs σ) (hw2 : Wy cl G L2 ad2 A s H locs τ) (hdis : ∀ i, i < L.length → ∀ j, j < L2.length → ad i ≠ ad2 j) (As : List Value) (rest : List Value) (hM : Met l y ws rm (Pq cl G L ad σ (.ref (ad o) :: As)) (Qi cl G L ad P) 0 0 (Ax L ad)) (cw : CallW R s args own C index y bytes maxL ret ws rm 0 0 n) (hL : L[o]? = some (.inr (.inr (ci, fs)))) (hc : cl[ci]? = some (C, T, N)) (hn : As.length = n) (hl : ls.size = nL) (hst : st = As.reverse ++ .ref (ad o) :: rest) (hr : (rest.map fun v => v.category).sum ≤ 8) (d : decode cc pc = .ok (.invokevirtual index, 3)) (hf : cells ≤ R.cells ∧ slots ≤ R.slots)
    (kk : ∀ (r : Int) (u : St) (H1 : Heap) (locs1 : List Loc), P r u → Wy cl G L ad A s H1 locs1 u → Wy cl G L2 ad2 A s H1 locs1 τ → W p l e R s m args below meth c H1 locs1 cells slots Q (F0 m (pc + 3) ls (iV r :: rest))) : W p l e R s m args below meth c H locs cells slots Q (F0 m pc ls st) :=
  va_calli (va_runV (As := As) (rest := rest) X hM cw ⟨Pq_blind, va_recv hw.1 hw.2.2.1 hc (wd_get hL), fun U hU hW => ⟨rfl, by rw [hU]; exact hw.2.2.1, va_K.moved hW.alike hw.1⟩⟩ rfl hn hl hst (lv_room hr) d hf) hw.2.2.2 (fun q _ h => hw.2.1.2 q h) (fun q h => hw.2.1.2 q h) (fun r u t H1 locs1 ht hvm hp hB hz hk hS => by obtain ⟨rfl, hq⟩ := hp; exact kk u.1 u.2 H1 locs1 hq ⟨hw.1, hw.2.1, ht ▸ hB.1, hS⟩ (hw2.other hdis hk hS))
theorem x_cvl2 {P : Int → St → Prop} (X : CallFix p m c cc nL s args Ts own) (hw : Wy cl G L ad A s H locs σ) (hw2 : Wy cl G L2 ad2 A s H locs τ) (hdis : ∀ i, i < L.length → ∀ j, j < L2.length → ad i ≠ ad2 j) (As : List Value) (rest : List Value) (hM : Met l y ws rm (Pq cl G L ad σ (.ref (ad o) :: As)) (Ql cl G L ad P) 0 0 (Ax L ad)) (cw : CallW R s args own C index y bytes maxL ret ws rm 0 0 n) (hL : L[o]? = some (.inr (.inr (ci, fs)))) (hc : cl[ci]? = some (C, T, N)) (hn : As.length = n) (hl : ls.size = nL) (hst : st = As.reverse ++ .ref (ad o) :: rest) (hr : (rest.map fun v => v.category).sum ≤ 8) (d : decode cc pc = .ok (.invokevirtual index, 3)) (hf : cells ≤ R.cells ∧ slots ≤ R.slots)
    (kk : ∀ (r : Int) (u : St) (H1 : Heap) (locs1 : List Loc), P r u → Wy cl G L ad A s H1 locs1 u → Wy cl G L2 ad2 A s H1 locs1 τ → W p l e R s m args below meth c H1 locs1 cells slots Q (F0 m (pc + 3) ls (lV r :: rest))) : W p l e R s m args below meth c H locs cells slots Q (F0 m pc ls st) :=
  va_calll (va_runV (As := As) (rest := rest) X hM cw ⟨Pq_blind, va_recv hw.1 hw.2.2.1 hc (wd_get hL), fun U hU hW => ⟨rfl, by rw [hU]; exact hw.2.2.1, va_K.moved hW.alike hw.1⟩⟩ rfl hn hl hst (lv_room hr) d hf) hw.2.2.2 (fun q _ h => hw.2.1.2 q h) (fun q h => hw.2.1.2 q h) (fun r u t H1 locs1 ht hvm hp hB hz hk hS => by obtain ⟨rfl, hq⟩ := hp; exact kk u.1 u.2 H1 locs1 hq ⟨hw.1, hw.2.1, ht ▸ hB.1, hS⟩ (hw2.other hdis hk hS))
theorem x_sld (X : CallFix p m c cc nL s args Ts own) {b Ls : Nat} {xs : Nat → Int32} (hX : va_X b Ls xs s s.heap) (hbl : b < s.heap.size) (hS : va_S (fun q => s.heap.size ≤ q) s.heap H locs) {a : Int} (j : Nat) (ha : i32 a = (j : Nat)) (hj : j < Ls) (d : decode cc pc = .ok (.iaload, 1)) (k : W p l e R s m args below meth c H locs cells slots Q (F0 m (pc + 1) ls (iV (xs j).toInt :: rest))) : W p l e R s m args below meth c H locs cells slots Q (F0 m pc ls (iV a :: .ref b :: rest)) := by
  have hcl : (Int32.ofInt a).toNatClampNeg = j := by
    show (Int32.ofInt a).toInt.toNat = j
    have : (Int32.ofInt a).toInt = (j : Int) := ha
    rw [this]
    rfl
  refine va_sld X.1 X.2.1 hX hbl (Nat.not_le.mpr hbl) hS (x_in (by rw [ha]; omega)) d ?_
  rw [hcl, iV_i32]
  exact k
end LWR
