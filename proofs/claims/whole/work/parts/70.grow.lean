-- A GROWING WORLD: cells are made one by one
def fLow (n : Nat) : Nat ⊕ Bool → Bool
  | .inl 0 => true
  | .inl (k + 1) => decide (k + 1 < n)
  | .inr _ => true
def cLow (n : Nat) : LC → Bool
  | .inl _ => true
  | .inr (.inl (_, ks)) => ks.all (fun k => decide (k < n))
  | .inr (.inr (_, fs)) => fs.all (fLow n)
theorem fV_low {n : Nat} {ad ad' : Nat → Nat} (e : ∀ k, k < n → ad' k = ad k) {q : Nat ⊕ Bool} (h : fLow n q = true) (x : Int) : fV ad' q x = fV ad q x := by
  match q with
  | .inl 0 => rfl
  | .inl (k + 1) =>
    show Value.ref (ad' (k + 1)) = Value.ref (ad (k + 1))
    rw [e _ (by simpa [fLow] using h)]
  | .inr false => rfl
  | .inr true => rfl
theorem cE_low {G : GT} {n : Nat} {ad ad' : Nat → Nat} (e : ∀ k, k < n → ad' k = ad k) {c : LC} (h : cLow n c = true) (f : Int → Int) : cE G ad' c f = cE G ad c f := by
  match c with
  | .inl (false, m) => rfl
  | .inl (true, m) => rfl
  | .inr (.inl (m, ks)) =>
    have hks : ∀ k ∈ ks, k < n := fun k hk => by
      have := List.all_eq_true.mp h k hk
      simpa using this
    show Sum.inl (G.1.2.2, m, Sum.inr (Sum.inr (Sum.inr (Sum.inr (fun j : Nat => (ks[j]?).map ad'))))) = Sum.inl (G.1.2.2, m, Sum.inr (Sum.inr (Sum.inr (Sum.inr (fun j : Nat => (ks[j]?).map ad)))))
    have : (fun j : Nat => (ks[j]?).map ad') = (fun j : Nat => (ks[j]?).map ad) := by
      funext j
      cases hj : ks[j]? with
      | none => rfl
      | some k => rw [Option.map_some, Option.map_some, e k (hks k (List.mem_of_getElem? hj))]
    rw [this]
  | .inr (.inr (ci, fs)) =>
    have hfs : ∀ q ∈ fs, fLow n q = true := List.all_eq_true.mp h
    show Sum.inr (ci, fs.mapIdx (fun (j : Nat) q => fV ad' q (f j))) = Sum.inr (ci, fs.mapIdx (fun (j : Nat) q => fV ad q (f j)))
    congr 2
    apply List.ext_getElem?
    intro j
    rw [List.getElem?_mapIdx, List.getElem?_mapIdx]
    cases hj : fs[j]? with
    | none => rfl
    | some q => rw [Option.map_some, Option.map_some, fV_low e (hfs q (List.mem_of_getElem? hj))]
def allLow (L : List LC) : Bool := L.all (cLow L.length)
theorem wd_low {G : GT} {L : List LC} {ad ad' : Nat → Nat} {σ σ' : St} (h : allLow L = true) (e : ∀ k, k < L.length → ad' k = ad k) (es : ∀ k, k < L.length → σ' k = σ k) : wd G L ad' σ' = wd G L ad σ := by
  apply List.ext_getElem?
  intro j
  unfold wd
  rw [List.getElem?_mapIdx, List.getElem?_mapIdx]
  cases hj : L[j]? with
  | none => rfl
  | some c =>
    have hl : j < L.length := (List.getElem?_eq_some_iff.mp hj).1
    rw [Option.map_some, Option.map_some, e j hl, es j hl, cE_low e (List.all_eq_true.mp h c (List.mem_of_getElem? hj))]
theorem wd_push {G : GT} {L : List LC} {ad ad' : Nat → Nat} {σ σ' : St} {c : LC} (h : allLow L = true) (e : ∀ k, k < L.length → ad' k = ad k) (es : ∀ k, k < L.length → σ' k = σ k) : wd G (L ++ [c]) ad' σ' = wd G L ad σ ++ [(ad' L.length, cE G ad' c (σ' L.length))] := by
  rw [← wd_low (G := G) h e es]
  unfold wd
  rw [List.mapIdx_append]
  simp
theorem wd_D' {G : GT} {L : List LC} {ad : Nat → Nat} {A : Nat → Prop} {σ : St} (h : va_D A (wd G L ad σ)) : Inj L ad ∧ ∀ q, Ax L ad q → A q := by
  have key : ∀ k, k < L.length → ∃ e, (wd G L ad σ)[k]? = some (ad k, e) := fun k hk => ⟨_, wd_get (List.getElem?_eq_getElem hk)⟩
  refine ⟨fun i j hi hj e => ?_, fun q hq => ?_⟩
  · obtain ⟨a, ha⟩ := key i hi
    obtain ⟨b, hb⟩ := key j hj
    exact h.1 i j _ _ ha hb e
  · obtain ⟨k, hk, rfl⟩ := hq
    obtain ⟨a, ha⟩ := key k hk
    exact h.2 k _ ha
section XG
variable {p : Program} {l : Launch} {e : Env} {R : Room} {s : State} {m : MethodId} {args : Array Value} {below : List Frame} {meth : Method} {c : Code} {H : Heap} {locs : List Loc} {cells slots : Nat} {Q : State → Prop}
variable {cc : ByteArray} {nL : Nat} {Ts : List Cond} {own : String} {pc : Nat} {ls : Array Slot} {rest : List Value} {cl : List vw_C} {G : GT} {L : List LC} {ad : Nat → Nat} {A : Nat → Prop} {σ : St}
theorem adN {L : List LC} (ad : Nat → Nat) (q : Nat) : ∃ ad' : Nat → Nat, ad' L.length = q ∧ ∀ k, k < L.length → ad' k = ad k := ⟨fun k => if k = L.length then q else ad k, if_pos rfl, fun k hk => if_neg (by omega)⟩
theorem x_newi (X : CallFix p m c cc nL s args Ts own) (hw : Wy cl G L ad A s H locs σ) (hA : ∀ q, s.heap.size ≤ q → A q) (hlow : allLow L = true) (harr : Cond.arrayClass .int ∈ Ts) {a : Int} (n : Nat) (hn : i32 a = n) (hb : Nat.ble n 20000 = true) (hc : cells + 1 ≤ R.cells) (hsl : slots + n ≤ R.slots) (d : decode cc pc = .ok (.newarray .int, 2))
    (kk : ∀ (ad' : Nat → Nat) (H1 : Heap), (∀ k, k < L.length → ad' k = ad k) → Wy cl G (L ++ [.inl (false, n)]) ad' A s H1 locs (sf σ L.length (fun _ => 0)) → W p l e R s m args below meth c H1 locs (cells + 1) (slots + n) Q (F0 m (pc + 2) ls (.ref (ad' L.length) :: rest))) : W p l e R s m args below meth c H locs cells slots Q (F0 m pc ls (iV a :: rest)) := by
  have hb' := Nat.le_of_ble_eq_true hb
  refine va_newa (D := G.2) (cl := cl) (atype := .int) X.1 X.2.1 (X.2.2.2.2 _ harr) rfl hw.1 hw.2.2.1 (wd_D σ hw.2.1.1 hw.2.1.2) hw.2.2.2 hA (a0 := (n, .inl (fun _ => 0))) (fun cA => rfl) (fun z => by have := x_lt0.mp z; omega) (by show (Int32.ofInt a).toInt.toNat = n; have : (Int32.ofInt a).toInt = (n : Int) := hn; rw [this]; rfl) (by show n * 4 ≤ 536870912; omega) hc hsl d (fun q cA H1 hK hP hD hS => ?_)
  have hcA : cA = G.1.1 := by
    have h1 := (hK.2 3 (cA, .int) rfl).2
    have h2 := (hw.1.2 0 (G.1.1, .int) rfl).2
    exact Option.some.inj (h1.symm.trans h2)
  subst hcA
  obtain ⟨ad', e1, e2⟩ := adN (L := L) ad q
  have es : ∀ k, k < L.length → sf σ L.length (fun _ => 0) k = σ k := fun k hk => sf_row _ (by omega) _
  have ew : wd G (L ++ [.inl (false, n)]) ad' (sf σ L.length (fun _ => 0)) = wd G L ad σ ++ [(q, .inl (G.1.1, n, .inl (fun _ => 0)))] := by
    rw [wd_push hlow e2 es, e1, sf_at]
    rfl
  have := kk ad' H1 e2 ⟨hw.1, wd_D' (G := G) (σ := sf σ L.length (fun _ => 0)) (by rw [ew]; exact hD), by rw [ew]; exact hP, hS⟩
  rw [e1] at this
  exact this
theorem x_newj (X : CallFix p m c cc nL s args Ts own) (hw : Wy cl G L ad A s H locs σ) (hA : ∀ q, s.heap.size ≤ q → A q) (hlow : allLow L = true) (harr : Cond.arrayClass .long ∈ Ts) {a : Int} (n : Nat) (hn : i32 a = n) (hb : Nat.ble n 20000 = true) (hc : cells + 1 ≤ R.cells) (hsl : slots + n ≤ R.slots) (d : decode cc pc = .ok (.newarray .long, 2))
    (kk : ∀ (ad' : Nat → Nat) (H1 : Heap), (∀ k, k < L.length → ad' k = ad k) → Wy cl G (L ++ [.inl (true, n)]) ad' A s H1 locs (sf σ L.length (fun _ => 0)) → W p l e R s m args below meth c H1 locs (cells + 1) (slots + n) Q (F0 m (pc + 2) ls (.ref (ad' L.length) :: rest))) : W p l e R s m args below meth c H locs cells slots Q (F0 m pc ls (iV a :: rest)) := by
  have hb' := Nat.le_of_ble_eq_true hb
  refine va_newa (D := G.2) (cl := cl) (atype := .long) X.1 X.2.1 (X.2.2.2.2 _ harr) rfl hw.1 hw.2.2.1 (wd_D σ hw.2.1.1 hw.2.1.2) hw.2.2.2 hA (a0 := (n, .inr (.inl (fun _ => 0)))) (fun cA => rfl) (fun z => by have := x_lt0.mp z; omega) (by show (Int32.ofInt a).toInt.toNat = n; have : (Int32.ofInt a).toInt = (n : Int) := hn; rw [this]; rfl) (by show n * 8 ≤ 536870912; omega) hc hsl d (fun q cA H1 hK hP hD hS => ?_)
  have hcA : cA = G.1.2.1 := by
    have h1 := (hK.2 3 (cA, .long) rfl).2
    have h2 := (hw.1.2 1 (G.1.2.1, .long) rfl).2
    exact Option.some.inj (h1.symm.trans h2)
  subst hcA
  obtain ⟨ad', e1, e2⟩ := adN (L := L) ad q
  have es : ∀ k, k < L.length → sf σ L.length (fun _ => 0) k = σ k := fun k hk => sf_row _ (by omega) _
  have ew : wd G (L ++ [.inl (true, n)]) ad' (sf σ L.length (fun _ => 0)) = wd G L ad σ ++ [(q, .inl (G.1.2.1, n, .inr (.inl (fun _ => 0))))] := by
    rw [wd_push hlow e2 es, e1, sf_at]
    rfl
  have := kk ad' H1 e2 ⟨hw.1, wd_D' (G := G) (σ := sf σ L.length (fun _ => 0)) (by rw [ew]; exact hD), by rw [ew]; exact hP, hS⟩
  rw [e1] at this
  exact this
/-- an object is made, its fields null and 0 -/
theorem x_newo (X : CallFix p m c cc nL s args Ts own) (hw : Wy cl G L ad A s H locs σ) (hA : ∀ q, s.heap.size ≤ q → A q) (hlow : allLow L = true) {C : String} {T : u_T} {N ci index : Nat} (fs : List (Nat ⊕ Bool)) (hc : cl[ci]? = some (C, T, N)) (hin : ∀ w ∈ u_ws C T N, w ∈ Ts) (ty0 : Nat → FieldType) (hty : ∀ k, k < N → parseFieldDescriptor (T k).2.2.1 = some (ty0 k)) (hcl : Cond.classLink own index C ∈ Ts) (hinst : Cond.instantiable C N ∈ Ts) (hini : Cond.initialized C ∈ Ts) (hfl : fs.all (fLow 1) = true) (hfs : ∀ j, j < N → defaultValue (ty0 j) = vp_V (fs.mapIdx (fun (_ : Nat) q => fV (fun _ => 0) q 0)) j) (hcc : cells + 1 ≤ R.cells) (hsl : slots + N ≤ R.slots) (d : decode cc pc = .ok (.new index, 3))
    (kk : ∀ (ad' : Nat → Nat) (H1 : Heap), (∀ k, k < L.length → ad' k = ad k) → Wy cl G (L ++ [.inr (.inr (ci, fs))]) ad' A s H1 locs (sf σ L.length (fun _ => 0)) → W p l e R s m args below meth c H1 locs (cells + 1) (slots + N) Q (F0 m (pc + 3) ls (.ref (ad' L.length) :: rest))) : W p l e R s m args below meth c H locs cells slots Q (F0 m pc ls rest) := by
  refine va_new (D := G.2) (cl := cl) X.1 X.2.1 X.2.2.2.2 hin ty0 hty X.2.2.2.1 (X.2.2.2.2 _ hcl) (X.2.2.2.2 _ hinst) (X.2.2.2.2 _ hini) hw.1 hw.2.2.1 (wd_D σ hw.2.1.1 hw.2.1.2) hw.2.2.2 hA hc hfs hcc hsl d (fun q H1 hP hD hS => ?_)
  obtain ⟨ad', e1, e2⟩ := adN (L := L) ad q
  have es : ∀ k, k < L.length → sf σ L.length (fun _ => 0) k = σ k := fun k hk => sf_row _ (by omega) _
  have ef : (fs.mapIdx (fun (j : Nat) q => fV ad' q ((fun _ => 0 : Int → Int) j))) = fs.mapIdx (fun (_ : Nat) q => fV (fun _ => 0) q 0) := by
    apply List.ext_getElem?
    intro j
    rw [List.getElem?_mapIdx, List.getElem?_mapIdx]
    cases hj : fs[j]? with
    | none => rfl
    | some q =>
      have := List.all_eq_true.mp hfl q (List.mem_of_getElem? hj)
      match q, this with
      | .inl 0, _ => rfl
      | .inl (k + 1), h => simp [fLow] at h
      | .inr false, _ => rfl
      | .inr true, _ => rfl
  have ew : wd G (L ++ [.inr (.inr (ci, fs))]) ad' (sf σ L.length (fun _ => 0)) = wd G L ad σ ++ [(q, .inr (ci, fs.mapIdx (fun (_ : Nat) q => fV (fun _ => 0) q 0)))] := by
    rw [wd_push hlow e2 es, e1, sf_at]
    show _ ++ [(q, Sum.inr (ci, (fs.mapIdx (fun (j : Nat) q => fV ad' q ((fun _ => 0 : Int → Int) j)))))] = _
    rw [ef]
  have := kk ad' H1 e2 ⟨hw.1, wd_D' (G := G) (σ := sf σ L.length (fun _ => 0)) (by rw [ew]; exact hD), by rw [ew]; exact hP, hS⟩
  rw [e1] at this
  exact this
theorem wd_setL {L : List LC} {o : Nat} {c c' : LC} (h : L[o]? = some c) : (wd G L ad σ).set o (ad o, cE G ad c' (σ o)) = wd G (L.set o c') ad σ := by
  have hk : o < L.length := (List.getElem?_eq_some_iff.mp h).1
  apply List.ext_getElem?
  intro j
  by_cases hj : j = o
  · subst hj
    rw [List.getElem?_set_self (by unfold wd; rw [List.length_mapIdx]; exact hk), wd_get (c := c') (by rw [List.getElem?_set_self hk])]
  · rw [List.getElem?_set_ne (Ne.symm hj)]
    unfold wd
    rw [List.getElem?_mapIdx, List.getElem?_mapIdx, List.getElem?_set_ne (Ne.symm hj)]
theorem x_setj {fs : List (Nat ⊕ Bool)} {j : Nat} (q' : Nat ⊕ Bool) (hj : j < fs.length) (f : Int → Int) : (fs.mapIdx (fun (j : Nat) q => fV ad q (f j))).set j (fV ad q' (f j)) = (fs.set j q').mapIdx (fun (j : Nat) q => fV ad q (f j)) := by
  apply List.ext_getElem?
  intro i
  by_cases hi : i = j
  · subst hi
    rw [List.getElem?_set_self (by rw [List.length_mapIdx]; exact hj), List.getElem?_mapIdx, List.getElem?_set_self hj]
    rfl
  · rw [List.getElem?_set_ne (Ne.symm hi), List.getElem?_mapIdx, List.getElem?_mapIdx, List.getElem?_set_ne (Ne.symm hi)]
/-- a final field gets its row or object, in the constructor -/
theorem x_putr (X : CallFix p m c cc nL s args Ts own) (hw : Wy cl G L ad A s H locs σ) {C : String} {T : u_T} {N ci index o : Nat} {fs : List (Nat ⊕ Bool)} (hL : L[o]? = some (.inr (.inr (ci, fs)))) (hc : cl[ci]? = some (C, T, N)) (j : Nat) (hj : j < N) (hjl : j < fs.length) (k0 : Nat) (hin : ∀ w ∈ u_ws C T N, w ∈ Ts) (hlink : Cond.fieldLink own index (T j).1 (T j).2.1 (T j).2.2.1 ∈ Ts) (ty0 : Nat → FieldType) (hty : ∀ k, k < N → parseFieldDescriptor (T k).2.2.1 = some (ty0 k)) (hnm : ∀ a, a < N → ∀ b, b < N → a ≠ b → (T a).2.1 ≠ (T b).2.1) (hfin : (T j).2.2.2 = true) (hin2 : meth.name = "<init>") (hdecl : (T j).1 = own) (hn : ∀ q : Nat, narrow (ty0 j) (.ref q) = .ref q) (hfit : ∀ q : Nat, fits (ty0 j) (.ref q) = true) (d : decode cc pc = .ok (.putfield index, 3))
    (kk : ∀ (H1 : Heap) (locs1 : List Loc), Wy cl G (L.set o (.inr (.inr (ci, fs.set j (.inl (k0 + 1)))))) ad A s H1 locs1 σ → W p l e R s m args below meth c H1 locs1 cells slots Q (F0 m (pc + 3) ls rest)) : W p l e R s m args below meth c H locs cells slots Q (F0 m pc ls (.ref (ad (k0 + 1)) :: .ref (ad o) :: rest)) := by
  refine va_putF (D := G.2) (cl := cl) X.1 X.2.1 X.2.2.2.2 hin ty0 hty hnm X.2.2.2.1 hw.1 hw.2.2.1 (wd_D σ hw.2.1.1 hw.2.1.2) hw.2.2.2 o (wd_get hL) hc j hj (X.2.2.2.2 _ hlink) (fun _ h => h) hfin hin2 hdecl (hty j hj) (hn _) (hfit _) (by rw [List.length_mapIdx]; exact hjl) d (fun H1 locs1 hP hD hS => ?_)
  have e : (ad o, (Sum.inr (ci, (fs.mapIdx (fun (j : Nat) q => fV ad q (σ o j))).set j (.ref (ad (k0 + 1)))) : va_E)) = (ad o, cE G ad (.inr (.inr (ci, fs.set j (.inl (k0 + 1))))) (σ o)) := by
    have := x_setj (ad := ad) (fs := fs) (j := j) (.inl (k0 + 1)) hjl (σ o)
    show (ad o, (Sum.inr (ci, (fs.mapIdx (fun (j : Nat) q => fV ad q (σ o j))).set j (fV ad (.inl (k0 + 1)) (σ o j))) : va_E)) = (ad o, Sum.inr (ci, (fs.set j (.inl (k0 + 1))).mapIdx (fun (j : Nat) q => fV ad q (σ o j))))
    rw [this]
  rw [e, wd_setL hL] at hP hD
  exact kk H1 locs1 ⟨hw.1, wd_D' hD, hP, hS⟩
end XG
