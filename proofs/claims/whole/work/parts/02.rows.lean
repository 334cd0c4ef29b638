-- VALUES AND STATES: all numbers are Ints; a number is an int or a long of the machine by iV, lV; i32, i64 are what the machine sees of it
def iV (x : Int) : Value := .int (Int32.ofInt x)
def lV (x : Int) : Value := .long (Int64.ofInt x)
def i32 (x : Int) : Int := (Int32.ofInt x).toInt
def i64 (x : Int) : Int := (Int64.ofInt x).toInt
def i16 (x : Int) : Int := ((Int32.ofInt x).toInt16.toInt32).toInt
def idv (a b : Int) : Int := (Int32.ofInt a / Int32.ofInt b).toInt
def irm (a b : Int) : Int := (Int32.ofInt a - Int32.ofInt a / Int32.ofInt b * Int32.ofInt b).toInt
def ldv (a b : Int) : Int := (Int64.ofInt a / Int64.ofInt b).toInt
def lrm (a b : Int) : Int := (Int64.ofInt a - Int64.ofInt a / Int64.ofInt b * Int64.ofInt b).toInt
def ian (a b : Int) : Int := (Int32.ofInt a &&& Int32.ofInt b).toInt
def iro (a b : Int) : Int := (Int32.ofInt a ||| Int32.ofInt b).toInt
def ixr (a b : Int) : Int := (Int32.ofInt a ^^^ Int32.ofInt b).toInt
def ish (a b : Int) : Int := (Int32.ofInt a <<< (Int32.ofInt b &&& 31)).toInt
def isr (a b : Int) : Int := (Int32.ofInt a >>> (Int32.ofInt b &&& 31)).toInt
def isu (a b : Int) : Int := ((Int32.ofInt a).toUInt32 >>> ((Int32.ofInt b).toUInt32 &&& Int32.toUInt32 31)).toInt32.toInt
def lan (a b : Int) : Int := (Int64.ofInt a &&& Int64.ofInt b).toInt
def lro (a b : Int) : Int := (Int64.ofInt a ||| Int64.ofInt b).toInt
def lxr (a b : Int) : Int := (Int64.ofInt a ^^^ Int64.ofInt b).toInt
def lsh (a b : Int) : Int := (Int64.ofInt a <<< ((Int32.ofInt b).toInt64 &&& 63)).toInt
def lsr (a b : Int) : Int := (Int64.ofInt a >>> ((Int32.ofInt b).toInt64 &&& 63)).toInt
def lsu (a b : Int) : Int := ((Int64.ofInt a).toUInt64 >>> ((Int32.ofInt b).toInt64.toUInt64 &&& Int64.toUInt64 63)).toInt64.toInt
abbrev St : Type := Nat → Int → Int
/-- one place of a cell becomes v -/
def ss (σ : St) (k : Nat) (i v : Int) : St := fun k' => if k' = k then (fun i' => if i' = i then v else σ k i') else σ k'
/-- a whole cell becomes f -/
def sf (σ : St) (k : Nat) (f : Int → Int) : St := fun k' => if k' = k then f else σ k'
theorem ss_sf (σ : St) (k : Nat) (i v : Int) : ss σ k i v = sf σ k (fun i' => if i' = i then v else σ k i') := rfl
-- LAYOUTS: which cells a system has: int and long rows, a row of references, objects
abbrev LC : Type := (Bool × Nat) ⊕ ((Nat × List Nat) ⊕ (Nat × List (Nat ⊕ Bool)))
abbrev GT : Type := (ClassId × ClassId × ClassId) × va_G
def fV (ad : Nat → Nat) (f : Nat ⊕ Bool) (x : Int) : Value := match f with
  | .inl 0 => .null
  | .inl (k + 1) => .ref (ad (k + 1))
  | .inr false => iV x
  | .inr true => lV x
def cE (G : GT) (ad : Nat → Nat) (c : LC) (f : Int → Int) : va_E := match c with
  | .inl (false, n) => .inl (G.1.1, n, .inl (fun j : Nat => Int32.ofInt (f j)))
  | .inl (true, n) => .inl (G.1.2.1, n, .inr (.inl (fun j : Nat => Int64.ofInt (f j))))
  | .inr (.inl (n, ks)) => .inl (G.1.2.2, n, .inr (.inr (.inr (.inr (fun j : Nat => (ks[j]?).map ad)))))
  | .inr (.inr (ci, fs)) => .inr (ci, fs.mapIdx (fun (j : Nat) q => fV ad q (f j)))
def wd (G : GT) (L : List LC) (ad : Nat → Nat) (σ : St) : va_W := L.mapIdx (fun (k : Nat) c => (ad k, cE G ad c (σ k)))
theorem wd_get {G : GT} {L : List LC} {ad : Nat → Nat} {σ : St} {k : Nat} {c : LC} (h : L[k]? = some c) : (wd G L ad σ)[k]? = some (ad k, cE G ad c (σ k)) := by
  unfold wd
  rw [List.getElem?_mapIdx, h]
  rfl
theorem wd_set {G : GT} {L : List LC} {ad : Nat → Nat} {σ : St} {k : Nat} {c : LC} (h : L[k]? = some c) (f : Int → Int) : (wd G L ad σ).set k (ad k, cE G ad c f) = wd G L ad (sf σ k f) := by
  have hk : k < L.length := (List.getElem?_eq_some_iff.mp h).1
  apply List.ext_getElem?
  intro j
  by_cases hj : j = k
  · subst hj
    rw [List.getElem?_set_self (by unfold wd; rw [List.length_mapIdx]; exact hk), wd_get h]
    simp [sf]
  · rw [List.getElem?_set_ne (Ne.symm hj)]
    unfold wd
    rw [List.getElem?_mapIdx, List.getElem?_mapIdx]
    simp [sf, hj]
def Ax (L : List LC) (ad : Nat → Nat) : Nat → Prop := fun q => ∃ k, k < L.length ∧ q = ad k
def Inj (L : List LC) (ad : Nat → Nat) : Prop := ∀ i j : Nat, i < L.length → j < L.length → ad i = ad j → i = j
theorem wd_D {G : GT} {L : List LC} {ad : Nat → Nat} {A : Nat → Prop} (σ : St) (h : Inj L ad) (hA : ∀ q, Ax L ad q → A q) : va_D A (wd G L ad σ) := by
  have key : ∀ (k : Nat) (q : Nat × va_E), (wd G L ad σ)[k]? = some q → k < L.length ∧ q.1 = ad k := by
    intro k q hq
    unfold wd at hq
    rw [List.getElem?_mapIdx] at hq
    cases hc : L[k]? with
    | none => rw [hc] at hq; cases hq
    | some c =>
      rw [hc] at hq
      cases hq
      exact ⟨(List.getElem?_eq_some_iff.mp hc).1, rfl⟩
  refine ⟨fun i j a b hi hj hab => ?_, fun k q hq => ?_⟩
  · obtain ⟨h1, e1⟩ := key i a hi
    obtain ⟨h2, e2⟩ := key j b hj
    exact h i j h1 h2 (by rw [← e1, ← e2]; exact hab)
  · obtain ⟨h1, e1⟩ := key k q hq
    exact hA _ ⟨k, h1, e1⟩
def tyx (G : GT) : List (ClassId × FieldType) := [(G.1.1, .int), (G.1.2.1, .long), (G.1.2.2, .object "LacePillow$Sheet")]
/-- the world at a moment: classes known, addresses apart, the cells hold σ, nothing else has changed -/
def Wy (cl : List vw_C) (G : GT) (L : List LC) (ad : Nat → Nat) (A : Nat → Prop) (s : State) (H : Heap) (locs : List Loc) (σ : St) : Prop :=
  va_K G.2 cl (tyx G) s ∧ (Inj L ad ∧ ∀ q, Ax L ad q → A q) ∧ va_P G.2 cl (wd G L ad σ) H ∧ va_S A s.heap H locs
abbrev Wx (cl : List vw_C) (G : GT) (L : List LC) (ad : Nat → Nat) (s : State) (H : Heap) (locs : List Loc) (σ : St) : Prop := Wy cl G L ad (Ax L ad) s H locs σ
theorem ofi (x : Int32) : Int32.ofInt x.toInt = x := Int32.ofInt_toInt x
theorem ofl (x : Int64) : Int64.ofInt x.toInt = x := Int64.ofInt_toInt x
theorem x_in {i : Int} {n : Nat} (h : 0 ≤ i32 i ∧ i32 i < n) : vp_in (Int32.ofInt i) n := vp_in_iff.mpr h
theorem x_cl {i : Int} (h : 0 ≤ i32 i) : (((Int32.ofInt i).toNatClampNeg : Nat) : Int) = i32 i := by
  show (((Int32.ofInt i).toInt.toNat : Nat) : Int) = _
  exact Int.toNat_of_nonneg h
section XR
variable {p : Program} {l : Launch} {e : Env} {R : Room} {s : State} {m : MethodId} {args : Array Value} {below : List Frame} {meth : Method} {c : Code} {H : Heap} {locs : List Loc} {cells slots : Nat} {Q : State → Prop}
variable {cc : ByteArray} {nL : Nat} {Ts : List Cond} {own : String} {pc : Nat} {ls : Array Slot} {rest : List Value}
-- constants, locals
theorem x_iconst (X : CallFix p m c cc nL s args Ts own) {n : Int} (d : decode cc pc = .ok (.iconst n, 1)) (k : W p l e R s m args below meth c H locs cells slots Q (F0 m (pc + 1) ls (iV n :: rest))) : W p l e R s m args below meth c H locs cells slots Q (F0 m pc ls rest) := lv_iconst X.1 X.2.1 d rfl k
theorem x_bipush (X : CallFix p m c cc nL s args Ts own) {n : Int} (d : decode cc pc = .ok (.bipush n, 2)) (h : (Int8.ofInt n).toInt32 = Int32.ofInt n) (k : W p l e R s m args below meth c H locs cells slots Q (F0 m (pc + 2) ls (iV n :: rest))) : W p l e R s m args below meth c H locs cells slots Q (F0 m pc ls rest) := lv_bipush X.1 X.2.1 d h k
theorem x_sipush (X : CallFix p m c cc nL s args Ts own) {n : Int} (d : decode cc pc = .ok (.sipush n, 3)) (h : (Int16.ofInt n).toInt32 = Int32.ofInt n) (k : W p l e R s m args below meth c H locs cells slots Q (F0 m (pc + 3) ls (iV n :: rest))) : W p l e R s m args below meth c H locs cells slots Q (F0 m pc ls rest) := lv_sipush X.1 X.2.1 d h k
theorem x_lconst (X : CallFix p m c cc nL s args Ts own) {n : Fin 2} (v : Int) (d : decode cc pc = .ok (.lconst n, 1)) (h : Int64.ofNat (n : Nat) = Int64.ofInt v) (k : W p l e R s m args below meth c H locs cells slots Q (F0 m (pc + 1) ls (lV v :: rest))) : W p l e R s m args below meth c H locs cells slots Q (F0 m pc ls rest) := lv_lconst X.1 X.2.1 d h k
theorem x_ldc (X : CallFix p m c cc nL s args Ts own) {index : Nat} {v : Int32} (n : Int) (hc : Cond.constant own index v ∈ Ts) (h : v = Int32.ofInt n) (d : decode cc pc = .ok (.ldc index, 2)) (k : W p l e R s m args below meth c H locs cells slots Q (F0 m (pc + 2) ls (iV n :: rest))) : W p l e R s m args below meth c H locs cells slots Q (F0 m pc ls rest) := by
  subst h
  exact lv_ldc X.1 X.2.1 X.2.2.2.1 (X.2.2.2.2 _ hc) d k
theorem x_ldcw (X : CallFix p m c cc nL s args Ts own) {index : Nat} {v : Int32} (n : Int) (hc : Cond.constant own index v ∈ Ts) (h : v = Int32.ofInt n) (d : decode cc pc = .ok (.ldc_w index, 3)) (k : W p l e R s m args below meth c H locs cells slots Q (F0 m (pc + 3) ls (iV n :: rest))) : W p l e R s m args below meth c H locs cells slots Q (F0 m pc ls rest) := by
  subst h
  exact lv_ldcw X.1 X.2.1 X.2.2.2.1 (X.2.2.2.2 _ hc) d k
theorem x_ldc2 (X : CallFix p m c cc nL s args Ts own) {index : Nat} {v : Int64} (n : Int) (hc : Cond.constantLong own index v ∈ Ts) (h : v = Int64.ofInt n) (d : decode cc pc = .ok (.ldc2_w index, 3)) (k : W p l e R s m args below meth c H locs cells slots Q (F0 m (pc + 3) ls (lV n :: rest))) : W p l e R s m args below meth c H locs cells slots Q (F0 m pc ls rest) := by
  subst h
  exact lv_ldc2 X.1 X.2.1 X.2.2.2.1 (X.2.2.2.2 _ hc) d k
theorem x_iload_n (X : CallFix p m c cc nL s args Ts own) {q : Fin 4} {i : Nat} {a : Int} (d : decode cc pc = .ok (.iload_n q, 1)) (hi : (q : Nat) = i) (hl : ls[i]? = some (.val (iV a))) (k : W p l e R s m args below meth c H locs cells slots Q (F0 m (pc + 1) ls (iV a :: rest))) : W p l e R s m args below meth c H locs cells slots Q (F0 m pc ls rest) := lv_iload_n X.1 X.2.1 d hi hl k
theorem x_iload (X : CallFix p m c cc nL s args Ts own) {i : Nat} {a : Int} (d : decode cc pc = .ok (.iload i, 2)) (hl : ls[i]? = some (.val (iV a))) (k : W p l e R s m args below meth c H locs cells slots Q (F0 m (pc + 2) ls (iV a :: rest))) : W p l e R s m args below meth c H locs cells slots Q (F0 m pc ls rest) := lv_iload X.1 X.2.1 d hl k
theorem x_lload_n (X : CallFix p m c cc nL s args Ts own) {q : Fin 4} {i : Nat} {a : Int} (d : decode cc pc = .ok (.lload_n q, 1)) (hi : (q : Nat) = i) (hl : ls[i]? = some (.val (lV a))) (k : W p l e R s m args below meth c H locs cells slots Q (F0 m (pc + 1) ls (lV a :: rest))) : W p l e R s m args below meth c H locs cells slots Q (F0 m pc ls rest) := lv_lload_n X.1 X.2.1 d hi hl k
theorem x_lload (X : CallFix p m c cc nL s args Ts own) {i : Nat} {a : Int} (d : decode cc pc = .ok (.lload i, 2)) (hl : ls[i]? = some (.val (lV a))) (k : W p l e R s m args below meth c H locs cells slots Q (F0 m (pc + 2) ls (lV a :: rest))) : W p l e R s m args below meth c H locs cells slots Q (F0 m pc ls rest) := lv_lload X.1 X.2.1 d hl k
theorem x_aload_n (X : CallFix p m c cc nL s args Ts own) {q : Fin 4} {i a : Nat} (d : decode cc pc = .ok (.aload_n q, 1)) (hi : (q : Nat) = i) (hl : ls[i]? = some (.val (.ref a))) (k : W p l e R s m args below meth c H locs cells slots Q (F0 m (pc + 1) ls (.ref a :: rest))) : W p l e R s m args below meth c H locs cells slots Q (F0 m pc ls rest) := lv_aload_n X.1 X.2.1 d hi hl k
theorem x_aload (X : CallFix p m c cc nL s args Ts own) {i a : Nat} (d : decode cc pc = .ok (.aload i, 2)) (hl : ls[i]? = some (.val (.ref a))) (k : W p l e R s m args below meth c H locs cells slots Q (F0 m (pc + 2) ls (.ref a :: rest))) : W p l e R s m args below meth c H locs cells slots Q (F0 m pc ls rest) := lv_aload X.1 X.2.1 d hl k
theorem x_istore_n (X : CallFix p m c cc nL s args Ts own) {q : Fin 4} {i : Nat} {a : Int} {lv : List (Nat × Value)} (lv' : List (Nat × Value)) (d : decode cc pc = .ok (.istore_n q, 1)) (hi : (q : Nat) = i) (h : lv_has ls nL lv) (hn : i < nL) (hl : (i, iV a) :: lv.filter (fun q => !(q.1 == i) && !(q.1 + 1 == i && q.2.category == 2)) = lv') (kk : ∀ ls' : Array Slot, lv_has ls' nL lv' → W p l e R s m args below meth c H locs cells slots Q (F0 m (pc + 1) ls' rest)) : W p l e R s m args below meth c H locs cells slots Q (F0 m pc ls (iV a :: rest)) := lv_istore_n X.1 X.2.1 d hi h hn hl kk
theorem x_istore (X : CallFix p m c cc nL s args Ts own) {i : Nat} {a : Int} {lv : List (Nat × Value)} (lv' : List (Nat × Value)) (d : decode cc pc = .ok (.istore i, 2)) (h : lv_has ls nL lv) (hn : i < nL) (hl : (i, iV a) :: lv.filter (fun q => !(q.1 == i) && !(q.1 + 1 == i && q.2.category == 2)) = lv') (kk : ∀ ls' : Array Slot, lv_has ls' nL lv' → W p l e R s m args below meth c H locs cells slots Q (F0 m (pc + 2) ls' rest)) : W p l e R s m args below meth c H locs cells slots Q (F0 m pc ls (iV a :: rest)) := lv_istore X.1 X.2.1 d h hn hl kk
theorem x_lstore_n (X : CallFix p m c cc nL s args Ts own) {q : Fin 4} {i : Nat} {a : Int} {lv : List (Nat × Value)} (lv' : List (Nat × Value)) (d : decode cc pc = .ok (.lstore_n q, 1)) (hi : (q : Nat) = i) (h : lv_has ls nL lv) (hn : i + 1 < nL) (hl : (i, lV a) :: lv.filter (fun q => !(q.1 == i) && (!(q.1 == i + 1) && !(q.1 + 1 == i && q.2.category == 2))) = lv') (kk : ∀ ls' : Array Slot, lv_has ls' nL lv' → W p l e R s m args below meth c H locs cells slots Q (F0 m (pc + 1) ls' rest)) : W p l e R s m args below meth c H locs cells slots Q (F0 m pc ls (lV a :: rest)) := lv_lstore_n X.1 X.2.1 d hi h hn hl kk
theorem x_lstore (X : CallFix p m c cc nL s args Ts own) {i : Nat} {a : Int} {lv : List (Nat × Value)} (lv' : List (Nat × Value)) (d : decode cc pc = .ok (.lstore i, 2)) (h : lv_has ls nL lv) (hn : i + 1 < nL) (hl : (i, lV a) :: lv.filter (fun q => !(q.1 == i) && (!(q.1 == i + 1) && !(q.1 + 1 == i && q.2.category == 2))) = lv') (kk : ∀ ls' : Array Slot, lv_has ls' nL lv' → W p l e R s m args below meth c H locs cells slots Q (F0 m (pc + 2) ls' rest)) : W p l e R s m args below meth c H locs cells slots Q (F0 m pc ls (lV a :: rest)) := lv_lstore X.1 X.2.1 d h hn hl kk
theorem x_astore_n (X : CallFix p m c cc nL s args Ts own) {q : Fin 4} {i a : Nat} {lv : List (Nat × Value)} (lv' : List (Nat × Value)) (d : decode cc pc = .ok (.astore_n q, 1)) (hi : (q : Nat) = i) (h : lv_has ls nL lv) (hn : i < nL) (hl : (i, Value.ref a) :: lv.filter (fun q => !(q.1 == i) && !(q.1 + 1 == i && q.2.category == 2)) = lv') (kk : ∀ ls' : Array Slot, lv_has ls' nL lv' → W p l e R s m args below meth c H locs cells slots Q (F0 m (pc + 1) ls' rest)) : W p l e R s m args below meth c H locs cells slots Q (F0 m pc ls (.ref a :: rest)) := lv_astore_n X.1 X.2.1 d hi h hn hl kk
theorem x_astore (X : CallFix p m c cc nL s args Ts own) {i a : Nat} {lv : List (Nat × Value)} (lv' : List (Nat × Value)) (d : decode cc pc = .ok (.astore i, 2)) (h : lv_has ls nL lv) (hn : i < nL) (hl : (i, Value.ref a) :: lv.filter (fun q => !(q.1 == i) && !(q.1 + 1 == i && q.2.category == 2)) = lv') (kk : ∀ ls' : Array Slot, lv_has ls' nL lv' → W p l e R s m args below meth c H locs cells slots Q (F0 m (pc + 2) ls' rest)) : W p l e R s m args below meth c H locs cells slots Q (F0 m pc ls (.ref a :: rest)) := lv_astore X.1 X.2.1 d h hn hl kk
theorem x_iinc (X : CallFix p m c cc nL s args Ts own) {i k : Nat} {n : Int} {a : Int} (b : Int) {lv : List (Nat × Value)} (lv' : List (Nat × Value)) (d : decode cc pc = .ok (.iinc i n, 3)) (h : lv_has ls nL lv) (hk : lv[k]? = some (i, iV a)) (hb : b = a + n) (hn : i < nL) (hl : (i, iV b) :: lv.filter (fun q => !(q.1 == i) && !(q.1 + 1 == i && q.2.category == 2)) = lv') (kk : ∀ ls' : Array Slot, lv_has ls' nL lv' → W p l e R s m args below meth c H locs cells slots Q (F0 m (pc + 3) ls' rest)) : W p l e R s m args below meth c H locs cells slots Q (F0 m pc ls rest) := lv_iinc X.1 X.2.1 d h hk (by rw [hb, Int32.ofInt_add]) hn hl kk
-- arithmetic
theorem x_iadd (X : CallFix p m c cc nL s args Ts own) {a b : Int} (d : decode cc pc = .ok (.iadd, 1)) (k : W p l e R s m args below meth c H locs cells slots Q (F0 m (pc + 1) ls (iV (a + b) :: rest))) : W p l e R s m args below meth c H locs cells slots Q (F0 m pc ls (iV b :: iV a :: rest)) := lv_iadd X.1 X.2.1 d (by rw [← Int32.ofInt_add]; exact k)
theorem x_isub (X : CallFix p m c cc nL s args Ts own) {a b : Int} (d : decode cc pc = .ok (.isub, 1)) (k : W p l e R s m args below meth c H locs cells slots Q (F0 m (pc + 1) ls (iV (a - b) :: rest))) : W p l e R s m args below meth c H locs cells slots Q (F0 m pc ls (iV b :: iV a :: rest)) := lv_isub X.1 X.2.1 d (by rw [← Int32.ofInt_sub]; exact k)
theorem x_imul (X : CallFix p m c cc nL s args Ts own) {a b : Int} (d : decode cc pc = .ok (.imul, 1)) (k : W p l e R s m args below meth c H locs cells slots Q (F0 m (pc + 1) ls (iV (a * b) :: rest))) : W p l e R s m args below meth c H locs cells slots Q (F0 m pc ls (iV b :: iV a :: rest)) := lv_imul X.1 X.2.1 d (by rw [← Int32.ofInt_mul]; exact k)
theorem x_ne0 {b : Int} (h : ¬ i32 b = 0) : ¬ Int32.ofInt b = 0 := fun z => h (by unfold i32; rw [z]; rfl)
theorem x_ne0l {b : Int} (h : ¬ i64 b = 0) : ¬ Int64.ofInt b = 0 := fun z => h (by unfold i64; rw [z]; rfl)
theorem x_idiv (X : CallFix p m c cc nL s args Ts own) {a b : Int} (d : decode cc pc = .ok (.idiv, 1)) (hne : ¬ i32 b = 0) (k : W p l e R s m args below meth c H locs cells slots Q (F0 m (pc + 1) ls (iV (idv a b) :: rest))) : W p l e R s m args below meth c H locs cells slots Q (F0 m pc ls (iV b :: iV a :: rest)) := lv_idiv X.1 X.2.1 d (x_ne0 hne) (by unfold iV idv at k; rwa [ofi] at k)
theorem x_irem (X : CallFix p m c cc nL s args Ts own) {a b : Int} (d : decode cc pc = .ok (.irem, 1)) (hne : ¬ i32 b = 0) (k : W p l e R s m args below meth c H locs cells slots Q (F0 m (pc + 1) ls (iV (irm a b) :: rest))) : W p l e R s m args below meth c H locs cells slots Q (F0 m pc ls (iV b :: iV a :: rest)) := lv_irem X.1 X.2.1 d (x_ne0 hne) (by unfold iV irm at k; rwa [ofi] at k)
theorem x_iand (X : CallFix p m c cc nL s args Ts own) {a b : Int} (d : decode cc pc = .ok (.iand, 1)) (k : W p l e R s m args below meth c H locs cells slots Q (F0 m (pc + 1) ls (iV (ian a b) :: rest))) : W p l e R s m args below meth c H locs cells slots Q (F0 m pc ls (iV b :: iV a :: rest)) := lv_iand X.1 X.2.1 d (by unfold iV ian at k; rwa [ofi] at k)
theorem x_ior (X : CallFix p m c cc nL s args Ts own) {a b : Int} (d : decode cc pc = .ok (.ior, 1)) (k : W p l e R s m args below meth c H locs cells slots Q (F0 m (pc + 1) ls (iV (iro a b) :: rest))) : W p l e R s m args below meth c H locs cells slots Q (F0 m pc ls (iV b :: iV a :: rest)) := lv_ior X.1 X.2.1 d (by unfold iV iro at k; rwa [ofi] at k)
theorem x_ixor (X : CallFix p m c cc nL s args Ts own) {a b : Int} (d : decode cc pc = .ok (.ixor, 1)) (k : W p l e R s m args below meth c H locs cells slots Q (F0 m (pc + 1) ls (iV (ixr a b) :: rest))) : W p l e R s m args below meth c H locs cells slots Q (F0 m pc ls (iV b :: iV a :: rest)) := lv_ixor X.1 X.2.1 d (by unfold iV ixr at k; rwa [ofi] at k)
theorem x_ishl (X : CallFix p m c cc nL s args Ts own) {a b : Int} (d : decode cc pc = .ok (.ishl, 1)) (k : W p l e R s m args below meth c H locs cells slots Q (F0 m (pc + 1) ls (iV (ish a b) :: rest))) : W p l e R s m args below meth c H locs cells slots Q (F0 m pc ls (iV b :: iV a :: rest)) := lv_ishl X.1 X.2.1 d (by unfold iV ish at k; rwa [ofi] at k)
theorem x_ishr (X : CallFix p m c cc nL s args Ts own) {a b : Int} (d : decode cc pc = .ok (.ishr, 1)) (k : W p l e R s m args below meth c H locs cells slots Q (F0 m (pc + 1) ls (iV (isr a b) :: rest))) : W p l e R s m args below meth c H locs cells slots Q (F0 m pc ls (iV b :: iV a :: rest)) := lv_ishr X.1 X.2.1 d (by unfold iV isr at k; rwa [ofi] at k)
theorem x_iushr (X : CallFix p m c cc nL s args Ts own) {a b : Int} (d : decode cc pc = .ok (.iushr, 1)) (k : W p l e R s m args below meth c H locs cells slots Q (F0 m (pc + 1) ls (iV (isu a b) :: rest))) : W p l e R s m args below meth c H locs cells slots Q (F0 m pc ls (iV b :: iV a :: rest)) := lv_iushr X.1 X.2.1 d rfl (by unfold iV isu at k; rwa [ofi] at k)
theorem x_ladd (X : CallFix p m c cc nL s args Ts own) {a b : Int} (d : decode cc pc = .ok (.ladd, 1)) (k : W p l e R s m args below meth c H locs cells slots Q (F0 m (pc + 1) ls (lV (a + b) :: rest))) : W p l e R s m args below meth c H locs cells slots Q (F0 m pc ls (lV b :: lV a :: rest)) := lv_ladd X.1 X.2.1 d (by rw [← Int64.ofInt_add]; exact k)
theorem x_lsub (X : CallFix p m c cc nL s args Ts own) {a b : Int} (d : decode cc pc = .ok (.lsub, 1)) (k : W p l e R s m args below meth c H locs cells slots Q (F0 m (pc + 1) ls (lV (a - b) :: rest))) : W p l e R s m args below meth c H locs cells slots Q (F0 m pc ls (lV b :: lV a :: rest)) := lv_lsub X.1 X.2.1 d (by rw [← Int64.ofInt_sub]; exact k)
theorem x_lmul (X : CallFix p m c cc nL s args Ts own) {a b : Int} (d : decode cc pc = .ok (.lmul, 1)) (k : W p l e R s m args below meth c H locs cells slots Q (F0 m (pc + 1) ls (lV (a * b) :: rest))) : W p l e R s m args below meth c H locs cells slots Q (F0 m pc ls (lV b :: lV a :: rest)) := lv_lmul X.1 X.2.1 d (by rw [← Int64.ofInt_mul]; exact k)
theorem x_ldiv (X : CallFix p m c cc nL s args Ts own) {a b : Int} (d : decode cc pc = .ok (.ldiv, 1)) (hne : ¬ i64 b = 0) (k : W p l e R s m args below meth c H locs cells slots Q (F0 m (pc + 1) ls (lV (ldv a b) :: rest))) : W p l e R s m args below meth c H locs cells slots Q (F0 m pc ls (lV b :: lV a :: rest)) := lv_ldiv X.1 X.2.1 d (x_ne0l hne) (by unfold lV ldv at k; rwa [ofl] at k)
theorem x_lrem (X : CallFix p m c cc nL s args Ts own) {a b : Int} (d : decode cc pc = .ok (.lrem, 1)) (hne : ¬ i64 b = 0) (k : W p l e R s m args below meth c H locs cells slots Q (F0 m (pc + 1) ls (lV (lrm a b) :: rest))) : W p l e R s m args below meth c H locs cells slots Q (F0 m pc ls (lV b :: lV a :: rest)) := lv_lrem X.1 X.2.1 d (x_ne0l hne) (by unfold lV lrm at k; rwa [ofl] at k)
theorem x_land (X : CallFix p m c cc nL s args Ts own) {a b : Int} (d : decode cc pc = .ok (.land, 1)) (k : W p l e R s m args below meth c H locs cells slots Q (F0 m (pc + 1) ls (lV (lan a b) :: rest))) : W p l e R s m args below meth c H locs cells slots Q (F0 m pc ls (lV b :: lV a :: rest)) := lv_land X.1 X.2.1 d (by unfold lV lan at k; rwa [ofl] at k)
theorem x_lor (X : CallFix p m c cc nL s args Ts own) {a b : Int} (d : decode cc pc = .ok (.lor, 1)) (k : W p l e R s m args below meth c H locs cells slots Q (F0 m (pc + 1) ls (lV (lro a b) :: rest))) : W p l e R s m args below meth c H locs cells slots Q (F0 m pc ls (lV b :: lV a :: rest)) := lv_lor X.1 X.2.1 d (by unfold lV lro at k; rwa [ofl] at k)
theorem x_lxor (X : CallFix p m c cc nL s args Ts own) {a b : Int} (d : decode cc pc = .ok (.lxor, 1)) (k : W p l e R s m args below meth c H locs cells slots Q (F0 m (pc + 1) ls (lV (lxr a b) :: rest))) : W p l e R s m args below meth c H locs cells slots Q (F0 m pc ls (lV b :: lV a :: rest)) := lv_lxor X.1 X.2.1 d (by unfold lV lxr at k; rwa [ofl] at k)
theorem x_lshl (X : CallFix p m c cc nL s args Ts own) {a b : Int} (d : decode cc pc = .ok (.lshl, 1)) (k : W p l e R s m args below meth c H locs cells slots Q (F0 m (pc + 1) ls (lV (lsh a b) :: rest))) : W p l e R s m args below meth c H locs cells slots Q (F0 m pc ls (iV b :: lV a :: rest)) := lv_lshl X.1 X.2.1 d rfl (by unfold lV lsh at k; rwa [ofl] at k)
theorem x_lshr (X : CallFix p m c cc nL s args Ts own) {a b : Int} (d : decode cc pc = .ok (.lshr, 1)) (k : W p l e R s m args below meth c H locs cells slots Q (F0 m (pc + 1) ls (lV (lsr a b) :: rest))) : W p l e R s m args below meth c H locs cells slots Q (F0 m pc ls (iV b :: lV a :: rest)) := lv_lshr X.1 X.2.1 d rfl (by unfold lV lsr at k; rwa [ofl] at k)
theorem x_lushr (X : CallFix p m c cc nL s args Ts own) {a b : Int} (d : decode cc pc = .ok (.lushr, 1)) (k : W p l e R s m args below meth c H locs cells slots Q (F0 m (pc + 1) ls (lV (lsu a b) :: rest))) : W p l e R s m args below meth c H locs cells slots Q (F0 m pc ls (iV b :: lV a :: rest)) := lv_lushr X.1 X.2.1 d rfl (by unfold lV lsu at k; rwa [ofl] at k)
theorem x_i2l (X : CallFix p m c cc nL s args Ts own) {a : Int} (d : decode cc pc = .ok (.i2l, 1)) (k : W p l e R s m args below meth c H locs cells slots Q (F0 m (pc + 1) ls (lV (i32 a) :: rest))) : W p l e R s m args below meth c H locs cells slots Q (F0 m pc ls (iV a :: rest)) := lv_i2l X.1 X.2.1 d (Int64.ofInt_int32ToInt _).symm k
theorem x_l2i (X : CallFix p m c cc nL s args Ts own) {a : Int} (d : decode cc pc = .ok (.l2i, 1)) (k : W p l e R s m args below meth c H locs cells slots Q (F0 m (pc + 1) ls (iV a :: rest))) : W p l e R s m args below meth c H locs cells slots Q (F0 m pc ls (lV a :: rest)) := lv_l2i X.1 X.2.1 d Int64.toInt32_ofInt k
theorem x_i2s (X : CallFix p m c cc nL s args Ts own) {a : Int} (d : decode cc pc = .ok (.i2s, 1)) (k : W p l e R s m args below meth c H locs cells slots Q (F0 m (pc + 1) ls (iV (i16 a) :: rest))) : W p l e R s m args below meth c H locs cells slots Q (F0 m pc ls (iV a :: rest)) := lv_i2s X.1 X.2.1 d rfl (by unfold iV i16 at k; rwa [ofi] at k)
theorem x_dup (X : CallFix p m c cc nL s args Ts own) {v : Value} (d : decode cc pc = .ok (.dup, 1)) (h : v.category = 1) (k : W p l e R s m args below meth c H locs cells slots Q (F0 m (pc + 1) ls (v :: v :: rest))) : W p l e R s m args below meth c H locs cells slots Q (F0 m pc ls (v :: rest)) := lv_dup X.1 X.2.1 d h k
theorem x_dup2 (X : CallFix p m c cc nL s args Ts own) {v w : Value} (d : decode cc pc = .ok (.dup2, 1)) (h : v.category = 1) (h2 : w.category = 1) (k : W p l e R s m args below meth c H locs cells slots Q (F0 m (pc + 1) ls (v :: w :: v :: w :: rest))) : W p l e R s m args below meth c H locs cells slots Q (F0 m pc ls (v :: w :: rest)) := lv_dup2_11 X.1 X.2.1 d h h2 k
theorem x_pop (X : CallFix p m c cc nL s args Ts own) {v : Value} (d : decode cc pc = .ok (.pop, 1)) (h : v.category = 1) (k : W p l e R s m args below meth c H locs cells slots Q (F0 m (pc + 1) ls rest)) : W p l e R s m args below meth c H locs cells slots Q (F0 m pc ls (v :: rest)) := lv_pop X.1 X.2.1 d h k
theorem x_bi {a : Int} (k : ∀ b : Int, b = a → W p l e R s m args below meth c H locs cells slots Q (F0 m pc ls (iV b :: rest))) : W p l e R s m args below meth c H locs cells slots Q (F0 m pc ls (iV a :: rest)) := k a rfl
theorem x_bl {a : Int} (k : ∀ b : Int, b = a → W p l e R s m args below meth c H locs cells slots Q (F0 m pc ls (lV b :: rest))) : W p l e R s m args below meth c H locs cells slots Q (F0 m pc ls (lV a :: rest)) := k a rfl
-- branches
theorem x_lt {a b : Int} : Int32.ofInt a < Int32.ofInt b ↔ i32 a < i32 b := Int32.lt_iff_toInt_lt
theorem x_le {a b : Int} : Int32.ofInt a ≤ Int32.ofInt b ↔ i32 a ≤ i32 b := Int32.le_iff_toInt_le
theorem x_eq {a b : Int} : Int32.ofInt a = Int32.ofInt b ↔ i32 a = i32 b := Int32.toInt_inj.symm
theorem x_lt0 {a : Int} : Int32.ofInt a < 0 ↔ i32 a < 0 := Int32.lt_iff_toInt_lt
theorem x_le0 {a : Int} : Int32.ofInt a ≤ 0 ↔ i32 a ≤ 0 := Int32.le_iff_toInt_le
theorem x_0le {a : Int} : 0 ≤ Int32.ofInt a ↔ 0 ≤ i32 a := Int32.le_iff_toInt_le
theorem x_0lt {a : Int} : 0 < Int32.ofInt a ↔ 0 < i32 a := Int32.lt_iff_toInt_lt
theorem x_eq0 {a : Int} : Int32.ofInt a = 0 ↔ i32 a = 0 := Int32.toInt_inj.symm
theorem x_goto (X : CallFix p m c cc nL s args Ts own) {off : Int} (tgt : Nat) (d : decode cc pc = .ok (.goto off, 3)) (ht : (pc : Int) + off = (tgt : Int)) (k : W p l e R s m args below meth c H locs cells slots Q (F0 m tgt ls rest)) : W p l e R s m args below meth c H locs cells slots Q (F0 m pc ls rest) := lv_goto X.1 X.2.1 d ht k
theorem x_icmp_eq (X : CallFix p m c cc nL s args Ts own) {a b off a' b' : Int} (ha : i32 a = a') (hb : i32 b = b') (tgt : Nat) (d : decode cc pc = .ok (.if_icmp .eq off, 3)) (ht : (pc : Int) + off = (tgt : Int)) (kt : a' = b' → W p l e R s m args below meth c H locs cells slots Q (F0 m tgt ls rest)) (kf : ¬ a' = b' → W p l e R s m args below meth c H locs cells slots Q (F0 m (pc + 3) ls rest)) : W p l e R s m args below meth c H locs cells slots Q (F0 m pc ls (iV b :: iV a :: rest)) := by
  subst ha
  subst hb
  exact lv_icmp_eq X.1 X.2.1 d ht (fun h => kt (x_eq.mp h)) (fun h => kf (fun z => h (x_eq.mpr z)))
theorem x_icmp_ne (X : CallFix p m c cc nL s args Ts own) {a b off a' b' : Int} (ha : i32 a = a') (hb : i32 b = b') (tgt : Nat) (d : decode cc pc = .ok (.if_icmp .ne off, 3)) (ht : (pc : Int) + off = (tgt : Int)) (kt : ¬ a' = b' → W p l e R s m args below meth c H locs cells slots Q (F0 m tgt ls rest)) (kf : a' = b' → W p l e R s m args below meth c H locs cells slots Q (F0 m (pc + 3) ls rest)) : W p l e R s m args below meth c H locs cells slots Q (F0 m pc ls (iV b :: iV a :: rest)) := by
  subst ha
  subst hb
  exact lv_icmp_ne X.1 X.2.1 d ht (fun h => kt (fun z => h (x_eq.mpr z))) (fun h => kf (x_eq.mp h))
theorem x_icmp_lt (X : CallFix p m c cc nL s args Ts own) {a b off a' b' : Int} (ha : i32 a = a') (hb : i32 b = b') (tgt : Nat) (d : decode cc pc = .ok (.if_icmp .lt off, 3)) (ht : (pc : Int) + off = (tgt : Int)) (kt : a' < b' → W p l e R s m args below meth c H locs cells slots Q (F0 m tgt ls rest)) (kf : b' ≤ a' → W p l e R s m args below meth c H locs cells slots Q (F0 m (pc + 3) ls rest)) : W p l e R s m args below meth c H locs cells slots Q (F0 m pc ls (iV b :: iV a :: rest)) := by
  subst ha
  subst hb
  exact lv_icmp_lt X.1 X.2.1 d ht (fun h => kt (x_lt.mp h)) (fun h => kf (Int.not_lt.mp (fun z => h (x_lt.mpr z))))
theorem x_icmp_ge (X : CallFix p m c cc nL s args Ts own) {a b off a' b' : Int} (ha : i32 a = a') (hb : i32 b = b') (tgt : Nat) (d : decode cc pc = .ok (.if_icmp .ge off, 3)) (ht : (pc : Int) + off = (tgt : Int)) (kt : b' ≤ a' → W p l e R s m args below meth c H locs cells slots Q (F0 m tgt ls rest)) (kf : a' < b' → W p l e R s m args below meth c H locs cells slots Q (F0 m (pc + 3) ls rest)) : W p l e R s m args below meth c H locs cells slots Q (F0 m pc ls (iV b :: iV a :: rest)) := by
  subst ha
  subst hb
  exact lv_icmp_ge X.1 X.2.1 d ht (fun h => kt (x_le.mp h)) (fun h => kf (Int.not_le.mp (fun z => h (x_le.mpr z))))
theorem x_icmp_gt (X : CallFix p m c cc nL s args Ts own) {a b off a' b' : Int} (ha : i32 a = a') (hb : i32 b = b') (tgt : Nat) (d : decode cc pc = .ok (.if_icmp .gt off, 3)) (ht : (pc : Int) + off = (tgt : Int)) (kt : b' < a' → W p l e R s m args below meth c H locs cells slots Q (F0 m tgt ls rest)) (kf : a' ≤ b' → W p l e R s m args below meth c H locs cells slots Q (F0 m (pc + 3) ls rest)) : W p l e R s m args below meth c H locs cells slots Q (F0 m pc ls (iV b :: iV a :: rest)) := by
  subst ha
  subst hb
  exact lv_icmp_gt X.1 X.2.1 d ht (fun h => kt (x_lt.mp h)) (fun h => kf (Int.not_lt.mp (fun z => h (x_lt.mpr z))))
theorem x_icmp_le (X : CallFix p m c cc nL s args Ts own) {a b off a' b' : Int} (ha : i32 a = a') (hb : i32 b = b') (tgt : Nat) (d : decode cc pc = .ok (.if_icmp .le off, 3)) (ht : (pc : Int) + off = (tgt : Int)) (kt : a' ≤ b' → W p l e R s m args below meth c H locs cells slots Q (F0 m tgt ls rest)) (kf : b' < a' → W p l e R s m args below meth c H locs cells slots Q (F0 m (pc + 3) ls rest)) : W p l e R s m args below meth c H locs cells slots Q (F0 m pc ls (iV b :: iV a :: rest)) := by
  subst ha
  subst hb
  exact lv_icmp_le X.1 X.2.1 d ht (fun h => kt (x_le.mp h)) (fun h => kf (Int.not_le.mp (fun z => h (x_le.mpr z))))
theorem x_if_eq (X : CallFix p m c cc nL s args Ts own) {a off a' : Int} (ha : i32 a = a') (tgt : Nat) (d : decode cc pc = .ok (.ifCond .eq off, 3)) (ht : (pc : Int) + off = (tgt : Int)) (kt : a' = 0 → W p l e R s m args below meth c H locs cells slots Q (F0 m tgt ls rest)) (kf : ¬ a' = 0 → W p l e R s m args below meth c H locs cells slots Q (F0 m (pc + 3) ls rest)) : W p l e R s m args below meth c H locs cells slots Q (F0 m pc ls (iV a :: rest)) := by
  subst ha
  exact lv_if_eq X.1 X.2.1 d ht (fun h => kt (x_eq0.mp h)) (fun h => kf (fun z => h (x_eq0.mpr z)))
theorem x_if_ne (X : CallFix p m c cc nL s args Ts own) {a off a' : Int} (ha : i32 a = a') (tgt : Nat) (d : decode cc pc = .ok (.ifCond .ne off, 3)) (ht : (pc : Int) + off = (tgt : Int)) (kt : ¬ a' = 0 → W p l e R s m args below meth c H locs cells slots Q (F0 m tgt ls rest)) (kf : a' = 0 → W p l e R s m args below meth c H locs cells slots Q (F0 m (pc + 3) ls rest)) : W p l e R s m args below meth c H locs cells slots Q (F0 m pc ls (iV a :: rest)) := by
  subst ha
  exact lv_if_ne X.1 X.2.1 d ht (fun h => kt (fun z => h (x_eq0.mpr z))) (fun h => kf (x_eq0.mp h))
theorem x_if_lt (X : CallFix p m c cc nL s args Ts own) {a off a' : Int} (ha : i32 a = a') (tgt : Nat) (d : decode cc pc = .ok (.ifCond .lt off, 3)) (ht : (pc : Int) + off = (tgt : Int)) (kt : a' < 0 → W p l e R s m args below meth c H locs cells slots Q (F0 m tgt ls rest)) (kf : 0 ≤ a' → W p l e R s m args below meth c H locs cells slots Q (F0 m (pc + 3) ls rest)) : W p l e R s m args below meth c H locs cells slots Q (F0 m pc ls (iV a :: rest)) := by
  subst ha
  exact lv_if_lt X.1 X.2.1 d ht (fun h => kt (x_lt0.mp h)) (fun h => kf (Int.not_lt.mp (fun z => h (x_lt0.mpr z))))
theorem x_if_ge (X : CallFix p m c cc nL s args Ts own) {a off a' : Int} (ha : i32 a = a') (tgt : Nat) (d : decode cc pc = .ok (.ifCond .ge off, 3)) (ht : (pc : Int) + off = (tgt : Int)) (kt : 0 ≤ a' → W p l e R s m args below meth c H locs cells slots Q (F0 m tgt ls rest)) (kf : a' < 0 → W p l e R s m args below meth c H locs cells slots Q (F0 m (pc + 3) ls rest)) : W p l e R s m args below meth c H locs cells slots Q (F0 m pc ls (iV a :: rest)) := by
  subst ha
  exact lv_if_ge X.1 X.2.1 d ht (fun h => kt (x_0le.mp h)) (fun h => kf (Int.not_le.mp (fun z => h (x_0le.mpr z))))
theorem x_if_gt (X : CallFix p m c cc nL s args Ts own) {a off a' : Int} (ha : i32 a = a') (tgt : Nat) (d : decode cc pc = .ok (.ifCond .gt off, 3)) (ht : (pc : Int) + off = (tgt : Int)) (kt : 0 < a' → W p l e R s m args below meth c H locs cells slots Q (F0 m tgt ls rest)) (kf : a' ≤ 0 → W p l e R s m args below meth c H locs cells slots Q (F0 m (pc + 3) ls rest)) : W p l e R s m args below meth c H locs cells slots Q (F0 m pc ls (iV a :: rest)) := by
  subst ha
  exact lv_if_gt X.1 X.2.1 d ht (fun h => kt (x_0lt.mp h)) (fun h => kf (Int.not_lt.mp (fun z => h (x_0lt.mpr z))))
theorem x_if_le (X : CallFix p m c cc nL s args Ts own) {a off a' : Int} (ha : i32 a = a') (tgt : Nat) (d : decode cc pc = .ok (.ifCond .le off, 3)) (ht : (pc : Int) + off = (tgt : Int)) (kt : a' ≤ 0 → W p l e R s m args below meth c H locs cells slots Q (F0 m tgt ls rest)) (kf : 0 < a' → W p l e R s m args below meth c H locs cells slots Q (F0 m (pc + 3) ls rest)) : W p l e R s m args below meth c H locs cells slots Q (F0 m pc ls (iV a :: rest)) := by
  subst ha
  exact lv_if_le X.1 X.2.1 d ht (fun h => kt (x_le0.mp h)) (fun h => kf (Int.not_le.mp (fun z => h (x_le0.mpr z))))
theorem x_cmp_lt (a b : Int) : lg_cmp (Int64.ofInt a) (Int64.ofInt b) < 0 ↔ i64 a < i64 b := by
  unfold lg_cmp i64
  simp only [gt_iff_lt, Int64.lt_iff_toInt_lt, ← Int64.toInt_inj]
  repeat' split
  · exact ⟨fun h => absurd h (by decide), fun h => by omega⟩
  · exact ⟨fun h => absurd h (by decide), fun h => by omega⟩
  · exact ⟨fun _ => by omega, fun _ => by decide⟩
theorem x_cmp_gt (a b : Int) : 0 < lg_cmp (Int64.ofInt a) (Int64.ofInt b) ↔ i64 b < i64 a := by
  unfold lg_cmp i64
  simp only [gt_iff_lt, Int64.lt_iff_toInt_lt, ← Int64.toInt_inj]
  repeat' split
  · exact ⟨fun _ => by omega, fun _ => by decide⟩
  · exact ⟨fun h => absurd h (by decide), fun h => by omega⟩
  · exact ⟨fun h => absurd h (by decide), fun h => by omega⟩
theorem x_cmp_eq (a b : Int) : lg_cmp (Int64.ofInt a) (Int64.ofInt b) = 0 ↔ i64 a = i64 b := by
  unfold lg_cmp i64
  simp only [gt_iff_lt, Int64.lt_iff_toInt_lt, ← Int64.toInt_inj]
  repeat' split
  · exact ⟨fun h => absurd h (by decide), fun h => by omega⟩
  · exact ⟨fun _ => by omega, fun _ => by rfl⟩
  · exact ⟨fun h => absurd h (by decide), fun h => by omega⟩
theorem x_cmp_le (a b : Int) : lg_cmp (Int64.ofInt a) (Int64.ofInt b) ≤ 0 ↔ i64 a ≤ i64 b := by
  rw [← Int32.not_lt, x_cmp_gt]; omega
theorem x_cmp_ge (a b : Int) : 0 ≤ lg_cmp (Int64.ofInt a) (Int64.ofInt b) ↔ i64 b ≤ i64 a := by
  rw [← Int32.not_lt, x_cmp_lt]; omega
theorem x_lcmp_eq (X : CallFix p m c cc nL s args Ts own) {a b off a' b' : Int} (ha : i64 a = a') (hb : i64 b = b') (tgt : Nat) (d0 : decode cc pc = .ok (.lcmp, 1)) (d : decode cc (pc + 1) = .ok (.ifCond .eq off, 3)) (ht : ((pc + 1 : Nat) : Int) + off = (tgt : Int)) (kt : a' = b' → W p l e R s m args below meth c H locs cells slots Q (F0 m tgt ls rest)) (kf : ¬ a' = b' → W p l e R s m args below meth c H locs cells slots Q (F0 m (pc + 1 + 3) ls rest)) : W p l e R s m args below meth c H locs cells slots Q (F0 m pc ls (lV b :: lV a :: rest)) := by
  subst ha
  subst hb
  exact W.lcmp X.1 X.2.1 d0 (lv_if_eq X.1 X.2.1 d ht (fun h => kt ((x_cmp_eq a b).mp h)) (fun h => kf (fun z => h ((x_cmp_eq a b).mpr z))))
theorem x_lcmp_ne (X : CallFix p m c cc nL s args Ts own) {a b off a' b' : Int} (ha : i64 a = a') (hb : i64 b = b') (tgt : Nat) (d0 : decode cc pc = .ok (.lcmp, 1)) (d : decode cc (pc + 1) = .ok (.ifCond .ne off, 3)) (ht : ((pc + 1 : Nat) : Int) + off = (tgt : Int)) (kt : ¬ a' = b' → W p l e R s m args below meth c H locs cells slots Q (F0 m tgt ls rest)) (kf : a' = b' → W p l e R s m args below meth c H locs cells slots Q (F0 m (pc + 1 + 3) ls rest)) : W p l e R s m args below meth c H locs cells slots Q (F0 m pc ls (lV b :: lV a :: rest)) := by
  subst ha
  subst hb
  exact W.lcmp X.1 X.2.1 d0 (lv_if_ne X.1 X.2.1 d ht (fun h => kt (fun z => h ((x_cmp_eq a b).mpr z))) (fun h => kf ((x_cmp_eq a b).mp h)))
theorem x_lcmp_lt (X : CallFix p m c cc nL s args Ts own) {a b off a' b' : Int} (ha : i64 a = a') (hb : i64 b = b') (tgt : Nat) (d0 : decode cc pc = .ok (.lcmp, 1)) (d : decode cc (pc + 1) = .ok (.ifCond .lt off, 3)) (ht : ((pc + 1 : Nat) : Int) + off = (tgt : Int)) (kt : a' < b' → W p l e R s m args below meth c H locs cells slots Q (F0 m tgt ls rest)) (kf : b' ≤ a' → W p l e R s m args below meth c H locs cells slots Q (F0 m (pc + 1 + 3) ls rest)) : W p l e R s m args below meth c H locs cells slots Q (F0 m pc ls (lV b :: lV a :: rest)) := by
  subst ha
  subst hb
  exact W.lcmp X.1 X.2.1 d0 (lv_if_lt X.1 X.2.1 d ht (fun h => kt ((x_cmp_lt a b).mp h)) (fun h => kf (Int.not_lt.mp (fun z => h ((x_cmp_lt a b).mpr z)))))
theorem x_lcmp_ge (X : CallFix p m c cc nL s args Ts own) {a b off a' b' : Int} (ha : i64 a = a') (hb : i64 b = b') (tgt : Nat) (d0 : decode cc pc = .ok (.lcmp, 1)) (d : decode cc (pc + 1) = .ok (.ifCond .ge off, 3)) (ht : ((pc + 1 : Nat) : Int) + off = (tgt : Int)) (kt : b' ≤ a' → W p l e R s m args below meth c H locs cells slots Q (F0 m tgt ls rest)) (kf : a' < b' → W p l e R s m args below meth c H locs cells slots Q (F0 m (pc + 1 + 3) ls rest)) : W p l e R s m args below meth c H locs cells slots Q (F0 m pc ls (lV b :: lV a :: rest)) := by
  subst ha
  subst hb
  exact W.lcmp X.1 X.2.1 d0 (lv_if_ge X.1 X.2.1 d ht (fun h => kt ((x_cmp_ge a b).mp h)) (fun h => kf (Int.not_le.mp (fun z => h ((x_cmp_ge a b).mpr z)))))
theorem x_lcmp_gt (X : CallFix p m c cc nL s args Ts own) {a b off a' b' : Int} (ha : i64 a = a') (hb : i64 b = b') (tgt : Nat) (d0 : decode cc pc = .ok (.lcmp, 1)) (d : decode cc (pc + 1) = .ok (.ifCond .gt off, 3)) (ht : ((pc + 1 : Nat) : Int) + off = (tgt : Int)) (kt : b' < a' → W p l e R s m args below meth c H locs cells slots Q (F0 m tgt ls rest)) (kf : a' ≤ b' → W p l e R s m args below meth c H locs cells slots Q (F0 m (pc + 1 + 3) ls rest)) : W p l e R s m args below meth c H locs cells slots Q (F0 m pc ls (lV b :: lV a :: rest)) := by
  subst ha
  subst hb
  exact W.lcmp X.1 X.2.1 d0 (lv_if_gt X.1 X.2.1 d ht (fun h => kt ((x_cmp_gt a b).mp h)) (fun h => kf (Int.not_lt.mp (fun z => h ((x_cmp_gt a b).mpr z)))))
theorem x_lcmp_le (X : CallFix p m c cc nL s args Ts own) {a b off a' b' : Int} (ha : i64 a = a') (hb : i64 b = b') (tgt : Nat) (d0 : decode cc pc = .ok (.lcmp, 1)) (d : decode cc (pc + 1) = .ok (.ifCond .le off, 3)) (ht : ((pc + 1 : Nat) : Int) + off = (tgt : Int)) (kt : a' ≤ b' → W p l e R s m args below meth c H locs cells slots Q (F0 m tgt ls rest)) (kf : b' < a' → W p l e R s m args below meth c H locs cells slots Q (F0 m (pc + 1 + 3) ls rest)) : W p l e R s m args below meth c H locs cells slots Q (F0 m pc ls (lV b :: lV a :: rest)) := by
  subst ha
  subst hb
  exact W.lcmp X.1 X.2.1 d0 (lv_if_le X.1 X.2.1 d ht (fun h => kt ((x_cmp_le a b).mp h)) (fun h => kf (Int.not_le.mp (fun z => h ((x_cmp_le a b).mpr z)))))
theorem x_tabIn (X : CallFix p m c cc nL s args Ts own) {a dflt lo hi off : Int} {offs : Array Int} {len : Nat} (v : Int) (tgt : Nat) (d : decode cc pc = .ok (.tableswitch dflt lo hi offs, len)) (h : i32 a = v) (h1 : lo ≤ v) (h2 : v ≤ hi) (ho : offs[(v - lo).toNat]? = some off) (ht : (pc : Int) + off = (tgt : Int)) (k : W p l e R s m args below meth c H locs cells slots Q (F0 m tgt ls rest)) : W p l e R s m args below meth c H locs cells slots Q (F0 m pc ls (iV a :: rest)) := by
  have e : (Int32.ofInt a).toInt = v := h
  exact lv_tableIn X.1 X.2.1 d (by rw [e]; omega) (by rw [e]; omega) (by rw [e]; exact ho) ht k
theorem x_tabOut (X : CallFix p m c cc nL s args Ts own) {a dflt lo hi : Int} {offs : Array Int} {len : Nat} (tgt : Nat) (d : decode cc pc = .ok (.tableswitch dflt lo hi offs, len)) (h : i32 a < lo ∨ hi < i32 a) (ht : (pc : Int) + dflt = (tgt : Int)) (k : W p l e R s m args below meth c H locs cells slots Q (F0 m tgt ls rest)) : W p l e R s m args below meth c H locs cells slots Q (F0 m pc ls (iV a :: rest)) := lv_tableOut X.1 X.2.1 d h ht k
end XR
section XH
variable {p : Program} {l : Launch} {e : Env} {R : Room} {s : State} {m : MethodId} {args : Array Value} {below : List Frame} {meth : Method} {c : Code} {H : Heap} {locs : List Loc} {cells slots : Nat} {Q : State → Prop}
variable {cc : ByteArray} {nL : Nat} {Ts : List Cond} {own : String} {pc : Nat} {ls : Array Slot} {rest : List Value} {cl : List vw_C} {G : GT} {L : List LC} {ad : Nat → Nat} {A : Nat → Prop} {σ : St}
theorem x_fget {L : List LC} {o ci : Nat} {fs : List (Nat ⊕ Bool)} {j : Nat} {q : Nat ⊕ Bool} (hf : fs[j]? = some q) (f : Int → Int) : (fs.mapIdx (fun (j : Nat) q => fV ad q (f j)))[j]? = some (fV ad q (f j)) := by
  rw [List.getElem?_mapIdx, hf]
  rfl
theorem x_fset {fs : List (Nat ⊕ Bool)} {j : Nat} {q : Nat ⊕ Bool} (hf : fs[j]? = some q) (f : Int → Int) (v : Int) : (fs.mapIdx (fun (j : Nat) q => fV ad q (f j))).set j (fV ad q v) = fs.mapIdx (fun (j' : Nat) q => fV ad q (if (j' : Int) = (j : Int) then v else f j')) := by
  have hj : j < fs.length := (List.getElem?_eq_some_iff.mp hf).1
  apply List.ext_getElem?
  intro i
  by_cases hi : i = j
  · subst hi
    rw [List.getElem?_set_self (by rw [List.length_mapIdx]; exact hj), List.getElem?_mapIdx, hf]
    simp
  · rw [List.getElem?_set_ne (Ne.symm hi), List.getElem?_mapIdx, List.getElem?_mapIdx]
    have : ¬ (i : Int) = (j : Int) := fun z => hi (Int.ofNat.inj z)
    simp [this]
theorem x_get (X : CallFix p m c cc nL s args Ts own) (hw : Wy cl G L ad A s H locs σ) {C : String} {T : u_T} {N ci index o : Nat} {fs : List (Nat ⊕ Bool)} (hL : L[o]? = some (.inr (.inr (ci, fs)))) (hc : cl[ci]? = some (C, T, N)) (j : Nat) (hj : j < N) {q : Nat ⊕ Bool} (hf : fs[j]? = some q) (hin : ∀ w ∈ u_ws C T N, w ∈ Ts) (hlink : Cond.fieldLink own index (T j).1 (T j).2.1 (T j).2.2.1 ∈ Ts) (d : decode cc pc = .ok (.getfield index, 3)) (k : W p l e R s m args below meth c H locs cells slots Q (F0 m (pc + 3) ls (fV ad q (σ o j) :: rest))) : W p l e R s m args below meth c H locs cells slots Q (F0 m pc ls (.ref (ad o) :: rest)) :=
  va_get (D := G.2) (cl := cl) X.1 X.2.1 X.2.2.2.2 hin X.2.2.2.1 hw.1 hw.2.2.1 o (wd_get hL) hc j hj (X.2.2.2.2 _ hlink) (fun _ h => h) (x_fget (L := L) (o := o) (ci := ci) hf (σ o)) d k
theorem x_put (X : CallFix p m c cc nL s args Ts own) (hw : Wy cl G L ad A s H locs σ) {C : String} {T : u_T} {N ci index o : Nat} {fs : List (Nat ⊕ Bool)} (hL : L[o]? = some (.inr (.inr (ci, fs)))) (hc : cl[ci]? = some (C, T, N)) (j : Nat) (hj : j < N) {q : Nat ⊕ Bool} (hf : fs[j]? = some q) (hin : ∀ w ∈ u_ws C T N, w ∈ Ts) (hlink : Cond.fieldLink own index (T j).1 (T j).2.1 (T j).2.2.1 ∈ Ts) (ty0 : Nat → FieldType) (hty : ∀ k, k < N → parseFieldDescriptor (T k).2.2.1 = some (ty0 k)) (hnm : ∀ a, a < N → ∀ b, b < N → a ≠ b → (T a).2.1 ≠ (T b).2.1) (hfin : (T j).2.2.2 = false) {a : Int} (hn : narrow (ty0 j) (fV ad q a) = fV ad q a) (hfit : fits (ty0 j) (fV ad q a) = true) (d : decode cc pc = .ok (.putfield index, 3)) (kk : ∀ (H1 : Heap) (locs1 : List Loc) (σ1 : St), σ1 = ss σ o j a → Wy cl G L ad A s H1 locs1 σ1 → W p l e R s m args below meth c H1 locs1 cells slots Q (F0 m (pc + 3) ls rest)) : W p l e R s m args below meth c H locs cells slots Q (F0 m pc ls (fV ad q a :: .ref (ad o) :: rest)) := by
  have hjl : j < fs.length := (List.getElem?_eq_some_iff.mp hf).1
  refine va_put (D := G.2) (cl := cl) X.1 X.2.1 X.2.2.2.2 hin ty0 hty hnm X.2.2.2.1 hw.1 hw.2.2.1 (wd_D σ hw.2.1.1 hw.2.1.2) hw.2.2.2 o (wd_get hL) hc j hj (X.2.2.2.2 _ hlink) (fun _ h => h) hfin (hty j hj) hn hfit (by rw [List.length_mapIdx]; exact hjl) d (fun H1 locs1 hP hD hS => ?_)
  refine kk H1 locs1 _ rfl ⟨hw.1, hw.2.1, ?_, hS⟩
  rw [x_fset hf] at hP
  rw [ss_sf, ← wd_set hL]
  exact hP
theorem x_getr (X : CallFix p m c cc nL s args Ts own) (hw : Wy cl G L ad A s H locs σ) {C : String} {T : u_T} {N ci index o : Nat} {fs : List (Nat ⊕ Bool)} (hL : L[o]? = some (.inr (.inr (ci, fs)))) (hc : cl[ci]? = some (C, T, N)) (j : Nat) (hj : j < N) {k0 : Nat} (hf : fs[j]? = some (.inl (k0 + 1))) (hin : ∀ w ∈ u_ws C T N, w ∈ Ts) (hlink : Cond.fieldLink own index (T j).1 (T j).2.1 (T j).2.2.1 ∈ Ts) (d : decode cc pc = .ok (.getfield index, 3)) (k : W p l e R s m args below meth c H locs cells slots Q (F0 m (pc + 3) ls (.ref (ad (k0 + 1)) :: rest))) : W p l e R s m args below meth c H locs cells slots Q (F0 m pc ls (.ref (ad o) :: rest)) := x_get X hw hL hc j hj hf hin hlink d k
theorem x_geti (X : CallFix p m c cc nL s args Ts own) (hw : Wy cl G L ad A s H locs σ) {C : String} {T : u_T} {N ci index o : Nat} {fs : List (Nat ⊕ Bool)} (hL : L[o]? = some (.inr (.inr (ci, fs)))) (hc : cl[ci]? = some (C, T, N)) (j : Nat) (hj : j < N) (hf : fs[j]? = some (.inr false)) (hin : ∀ w ∈ u_ws C T N, w ∈ Ts) (hlink : Cond.fieldLink own index (T j).1 (T j).2.1 (T j).2.2.1 ∈ Ts) (d : decode cc pc = .ok (.getfield index, 3)) (k : W p l e R s m args below meth c H locs cells slots Q (F0 m (pc + 3) ls (iV (σ o j) :: rest))) : W p l e R s m args below meth c H locs cells slots Q (F0 m pc ls (.ref (ad o) :: rest)) := x_get X hw hL hc j hj hf hin hlink d k
theorem x_getl (X : CallFix p m c cc nL s args Ts own) (hw : Wy cl G L ad A s H locs σ) {C : String} {T : u_T} {N ci index o : Nat} {fs : List (Nat ⊕ Bool)} (hL : L[o]? = some (.inr (.inr (ci, fs)))) (hc : cl[ci]? = some (C, T, N)) (j : Nat) (hj : j < N) (hf : fs[j]? = some (.inr true)) (hin : ∀ w ∈ u_ws C T N, w ∈ Ts) (hlink : Cond.fieldLink own index (T j).1 (T j).2.1 (T j).2.2.1 ∈ Ts) (d : decode cc pc = .ok (.getfield index, 3)) (k : W p l e R s m args below meth c H locs cells slots Q (F0 m (pc + 3) ls (lV (σ o j) :: rest))) : W p l e R s m args below meth c H locs cells slots Q (F0 m pc ls (.ref (ad o) :: rest)) := x_get X hw hL hc j hj hf hin hlink d k
theorem x_puti (X : CallFix p m c cc nL s args Ts own) (hw : Wy cl G L ad A s H locs σ) {C : String} {T : u_T} {N ci index o : Nat} {fs : List (Nat ⊕ Bool)} (hL : L[o]? = some (.inr (.inr (ci, fs)))) (hc : cl[ci]? = some (C, T, N)) (j : Nat) (hj : j < N) (hf : fs[j]? = some (.inr false)) (hin : ∀ w ∈ u_ws C T N, w ∈ Ts) (hlink : Cond.fieldLink own index (T j).1 (T j).2.1 (T j).2.2.1 ∈ Ts) (ty0 : Nat → FieldType) (hty : ∀ k, k < N → parseFieldDescriptor (T k).2.2.1 = some (ty0 k)) (hnm : ∀ a, a < N → ∀ b, b < N → a ≠ b → (T a).2.1 ≠ (T b).2.1) (hfin : (T j).2.2.2 = false) {a : Int} (hn : narrow (ty0 j) (iV a) = iV a) (hfit : fits (ty0 j) (iV a) = true) (d : decode cc pc = .ok (.putfield index, 3)) (kk : ∀ (H1 : Heap) (locs1 : List Loc) (σ1 : St), σ1 = ss σ o j a → Wy cl G L ad A s H1 locs1 σ1 → W p l e R s m args below meth c H1 locs1 cells slots Q (F0 m (pc + 3) ls rest)) : W p l e R s m args below meth c H locs cells slots Q (F0 m pc ls (iV a :: .ref (ad o) :: rest)) := x_put X hw hL hc j hj hf hin hlink ty0 hty hnm hfin hn hfit d kk
theorem x_putl (X : CallFix p m c cc nL s args Ts own) (hw : Wy cl G L ad A s H locs σ) {C : String} {T : u_T} {N ci index o : Nat} {fs : List (Nat ⊕ Bool)} (hL : L[o]? = some (.inr (.inr (ci, fs)))) (hc : cl[ci]? = some (C, T, N)) (j : Nat) (hj : j < N) (hf : fs[j]? = some (.inr true)) (hin : ∀ w ∈ u_ws C T N, w ∈ Ts) (hlink : Cond.fieldLink own index (T j).1 (T j).2.1 (T j).2.2.1 ∈ Ts) (ty0 : Nat → FieldType) (hty : ∀ k, k < N → parseFieldDescriptor (T k).2.2.1 = some (ty0 k)) (hnm : ∀ a, a < N → ∀ b, b < N → a ≠ b → (T a).2.1 ≠ (T b).2.1) (hfin : (T j).2.2.2 = false) {a : Int} (hn : narrow (ty0 j) (lV a) = lV a) (hfit : fits (ty0 j) (lV a) = true) (d : decode cc pc = .ok (.putfield index, 3)) (kk : ∀ (H1 : Heap) (locs1 : List Loc) (σ1 : St), σ1 = ss σ o j a → Wy cl G L ad A s H1 locs1 σ1 → W p l e R s m args below meth c H1 locs1 cells slots Q (F0 m (pc + 3) ls rest)) : W p l e R s m args below meth c H locs cells slots Q (F0 m pc ls (lV a :: .ref (ad o) :: rest)) := x_put X hw hL hc j hj hf hin hlink ty0 hty hnm hfin hn hfit d kk
theorem x_iald (X : CallFix p m c cc nL s args Ts own) (hw : Wy cl G L ad A s H locs σ) {k0 n : Nat} (hL : L[k0]? = some (.inl (false, n))) {i j n' : Int} (hj : i32 i = j) (hn : n' = (n : Int)) (hi : 0 ≤ j ∧ j < n') (d : decode cc pc = .ok (.iaload, 1)) (k : W p l e R s m args below meth c H locs cells slots Q (F0 m (pc + 1) ls (iV (σ k0 j) :: rest))) : W p l e R s m args below meth c H locs cells slots Q (F0 m pc ls (iV i :: .ref (ad k0) :: rest)) := by
  subst hj
  subst hn
  refine va_iald (D := G.2) (cl := cl) X.1 X.2.1 hw.1 hw.2.2.1 k0 0 (wd_get hL) rfl (x_in hi) d ?_
  show W p l e R s m args below meth c H locs cells slots Q (F0 m (pc + 1) ls (iV (σ k0 ((Int32.ofInt i).toNatClampNeg : Nat)) :: rest))
  rw [x_cl hi.1]
  exact k
theorem x_iast (X : CallFix p m c cc nL s args Ts own) (hw : Wy cl G L ad A s H locs σ) {k0 n : Nat} (hL : L[k0]? = some (.inl (false, n))) {i v j n' : Int} (hj : i32 i = j) (hn : n' = (n : Int)) (hi : 0 ≤ j ∧ j < n') (d : decode cc pc = .ok (.iastore, 1)) (kk : ∀ (H1 : Heap) (locs1 : List Loc) (σ1 : St), σ1 = ss σ k0 j v → Wy cl G L ad A s H1 locs1 σ1 → W p l e R s m args below meth c H1 locs1 cells slots Q (F0 m (pc + 1) ls rest)) : W p l e R s m args below meth c H locs cells slots Q (F0 m pc ls (iV v :: iV i :: .ref (ad k0) :: rest)) := by
  subst hj
  subst hn
  refine va_iast (D := G.2) (cl := cl) X.1 X.2.1 hw.1 hw.2.2.1 (wd_D σ hw.2.1.1 hw.2.1.2) hw.2.2.2 k0 0 (wd_get hL) rfl (x_in hi) d (fun H1 locs1 hP hD hS => ?_)
  refine kk H1 locs1 _ rfl ⟨hw.1, hw.2.1, ?_, hS⟩
  rw [ss_sf, ← wd_set hL]
  have e : (upd (fun j : Nat => Int32.ofInt (σ k0 j)) (Int32.ofInt i).toNatClampNeg (Int32.ofInt v)) = (fun j : Nat => Int32.ofInt (if (j : Int) = i32 i then v else σ k0 j)) := by
    funext j
    have hc := x_cl hi.1
    by_cases hj : j = (Int32.ofInt i).toNatClampNeg
    · have h2 : (j : Int) = i32 i := by rw [hj]; exact hc
      simp [upd, ← hj, h2]
    · have h2 : ¬ (j : Int) = i32 i := fun z => hj (Int.ofNat.inj (z.trans hc.symm))
      simp [upd, hj, h2]
  rw [e] at hP
  exact hP
theorem x_lald (X : CallFix p m c cc nL s args Ts own) (hw : Wy cl G L ad A s H locs σ) {k0 n : Nat} (hL : L[k0]? = some (.inl (true, n))) {i j n' : Int} (hj : i32 i = j) (hn : n' = (n : Int)) (hi : 0 ≤ j ∧ j < n') (d : decode cc pc = .ok (.laload, 1)) (k : W p l e R s m args below meth c H locs cells slots Q (F0 m (pc + 1) ls (lV (σ k0 j) :: rest))) : W p l e R s m args below meth c H locs cells slots Q (F0 m pc ls (iV i :: .ref (ad k0) :: rest)) := by
  subst hj
  subst hn
  refine va_lald (D := G.2) (cl := cl) X.1 X.2.1 hw.1 hw.2.2.1 k0 1 (wd_get hL) rfl (x_in hi) d ?_
  show W p l e R s m args below meth c H locs cells slots Q (F0 m (pc + 1) ls (lV (σ k0 ((Int32.ofInt i).toNatClampNeg : Nat)) :: rest))
  rw [x_cl hi.1]
  exact k
theorem x_last (X : CallFix p m c cc nL s args Ts own) (hw : Wy cl G L ad A s H locs σ) {k0 n : Nat} (hL : L[k0]? = some (.inl (true, n))) {i v j n' : Int} (hj : i32 i = j) (hn : n' = (n : Int)) (hi : 0 ≤ j ∧ j < n') (d : decode cc pc = .ok (.lastore, 1)) (kk : ∀ (H1 : Heap) (locs1 : List Loc) (σ1 : St), σ1 = ss σ k0 j v → Wy cl G L ad A s H1 locs1 σ1 → W p l e R s m args below meth c H1 locs1 cells slots Q (F0 m (pc + 1) ls rest)) : W p l e R s m args below meth c H locs cells slots Q (F0 m pc ls (lV v :: iV i :: .ref (ad k0) :: rest)) := by
  subst hj
  subst hn
  refine va_last (D := G.2) (cl := cl) X.1 X.2.1 hw.1 hw.2.2.1 (wd_D σ hw.2.1.1 hw.2.1.2) hw.2.2.2 k0 1 (wd_get hL) rfl (x_in hi) d (fun H1 locs1 hP hD hS => ?_)
  refine kk H1 locs1 _ rfl ⟨hw.1, hw.2.1, ?_, hS⟩
  rw [ss_sf, ← wd_set hL]
  have e : (vp_updL (fun j : Nat => Int64.ofInt (σ k0 j)) (Int32.ofInt i).toNatClampNeg (Int64.ofInt v)) = (fun j : Nat => Int64.ofInt (if (j : Int) = i32 i then v else σ k0 j)) := by
    funext j
    have hc := x_cl hi.1
    by_cases hj : j = (Int32.ofInt i).toNatClampNeg
    · have h2 : (j : Int) = i32 i := by rw [hj]; exact hc
      simp [vp_updL, ← hj, h2]
    · have h2 : ¬ (j : Int) = i32 i := fun z => hj (Int.ofNat.inj (z.trans hc.symm))
      simp [vp_updL, hj, h2]
  rw [e] at hP
  exact hP
theorem x_aald (X : CallFix p m c cc nL s args Ts own) (hw : Wy cl G L ad A s H locs σ) {k0 n : Nat} {ks : List Nat} (hL : L[k0]? = some (.inr (.inl (n, ks)))) {i j n' : Int} (hj : i32 i = j) (hn : n' = (n : Int)) (hi : 0 ≤ j ∧ j < n') (q : Nat) (hq : ks[j.toNat]? = some q) (d : decode cc pc = .ok (.aaload, 1)) (k : W p l e R s m args below meth c H locs cells slots Q (F0 m (pc + 1) ls (.ref (ad q) :: rest))) : W p l e R s m args below meth c H locs cells slots Q (F0 m pc ls (iV i :: .ref (ad k0) :: rest)) := by
  subst hj
  subst hn
  refine va_aldq (D := G.2) (cl := cl) X.1 X.2.1 hw.1 hw.2.2.1 k0 2 (wd_get hL) rfl (x_in hi) d ?_
  have he : ks[(Int32.ofInt i).toNatClampNeg]? = some q := hq
  show W p l e R s m args below meth c H locs cells slots Q (F0 m (pc + 1) ls (va_rf ((ks[(Int32.ofInt i).toNatClampNeg]?).map ad) :: rest))
  rw [he]
  exact k
theorem x_alen (X : CallFix p m c cc nL s args Ts own) (hw : Wy cl G L ad A s H locs σ) {k0 n : Nat} {b : Bool} (hL : L[k0]? = some (.inl (b, n))) {v : Int} (hv : v = (n : Int)) (d : decode cc pc = .ok (.arraylength, 1)) (k : W p l e R s m args below meth c H locs cells slots Q (F0 m (pc + 1) ls (iV v :: rest))) : W p l e R s m args below meth c H locs cells slots Q (F0 m pc ls (.ref (ad k0) :: rest)) := by
  subst hv
  cases b with
  | false => exact va_alen (D := G.2) (cl := cl) X.1 X.2.1 hw.1 hw.2.2.1 k0 0 (wd_get hL) rfl (Int32.ofInt_eq_ofNat.symm) d k
  | true => exact va_alen (D := G.2) (cl := cl) X.1 X.2.1 hw.1 hw.2.2.1 k0 1 (wd_get hL) rfl (Int32.ofInt_eq_ofNat.symm) d k
end XH
