theorem i64_i32 (x : Int) : i64 (i32 x) = i32 x := by
  unfold i64 i32
  rw [Int64.toInt_ofInt]
  have h1 := Int32.le_toInt (Int32.ofInt x)
  have h2 := Int32.toInt_lt (Int32.ofInt x)
  apply Int.bmod_eq_of_le
  · show -(18446744073709551616 / 2 : Int) ≤ _
    omega
  · show _ < ((18446744073709551616 + 1) / 2 : Int)
    omega
-- CONTRACTS: what a call wants and leaves of a world of fixed cells
def Bq (cl : List vw_C) (G : GT) (L : List LC) (ad : Nat → Nat) (σ : St) (t : State) : Prop := va_P G.2 cl (wd G L ad σ) t.heap ∧ va_K G.2 cl (tyx G) t
def Pq (cl : List vw_C) (G : GT) (L : List LC) (ad : Nat → Nat) (σ : St) (av : List Value) : Array Value → State → Prop := va_Pc av (fun U => Bq cl G L ad σ U)
def Qi (cl : List vw_C) (G : GT) (L : List LC) (ad : Nat → Nat) (P : Int → St → Prop) : Array Value → State → Outcome → State → Prop := va_Qi (fun (r : Int32) (u : Int × St) => r = Int32.ofInt u.1 ∧ P u.1 u.2) (fun u t => Bq cl G L ad u.2 t) (Ax L ad)
def Qz (cl : List vw_C) (G : GT) (L : List LC) (ad : Nat → Nat) (P : Int → St → Prop) : Array Value → State → Outcome → State → Prop := va_Qi (fun (r : Int32) (u : Int × St) => r = Int32.ofInt u.1 ∧ (u.1 = 0 ∨ u.1 = 1) ∧ P u.1 u.2) (fun u t => Bq cl G L ad u.2 t) (Ax L ad)
def Ql (cl : List vw_C) (G : GT) (L : List LC) (ad : Nat → Nat) (P : Int → St → Prop) : Array Value → State → Outcome → State → Prop := va_Ql (fun (r : Int64) (u : Int × St) => r = Int64.ofInt u.1 ∧ P u.1 u.2) (fun u t => Bq cl G L ad u.2 t) (Ax L ad)
def Qv (cl : List vw_C) (G : GT) (L : List LC) (ad : Nat → Nat) (P : St → Prop) : Array Value → State → Outcome → State → Prop := va_Qv (fun (u : St) => P u) (fun u t => Bq cl G L ad u t) (Ax L ad)
def Qr (cl : List vw_C) (G : GT) (L : List LC) (ad : Nat → Nat) (P : Nat → St → Prop) : Array Value → State → Outcome → State → Prop := va_Qr (fun (u : Nat × St) => P u.1 u.2) (fun u a t => a = ad u.1 ∧ Bq cl G L ad u.2 t) (Ax L ad)
abbrev rmx (f w : Nat) : Room := { frames := f, cells := 0, slots := 0, locals := w }
theorem Pq_blind {cl : List vw_C} {G : GT} {L : List LC} {ad : Nat → Nat} {σ : St} {av : List Value} : FrameBlind (Pq cl G L ad σ av) := fun a U g mk q => by
  obtain ⟨q0, qP, qK⟩ := q
  exact ⟨q0, qP, va_K.moved (u := U) (U := U.calling g mk a) (Vm.Alike.refl U.vm) qK⟩
section XM
variable {l : Launch} {y : MethodName} {ws ws' : List Cond} {cc : ByteArray} {maxL : Nat} {ret : Option FieldType} {f w : Nat} {cl : List vw_C} {G : GT} {L : List LC} {ad : Nat → Nat} {σ : St} {av : List Value} {own : String}
theorem x_met {Qc : Array Value → State → Outcome → State → Prop} (hy : plainName y.cls = true) (hws : ws = .code y cc maxL ret :: ws') (ho : y.cls = own) (hlen : (lg_sl av).length ≤ maxL) (hI : Inj L ad)
    (body : ∀ (p : Program) (e : Env) (s : State) (m : MethodId) (args : Array Value) (below : List Frame) (meth : Method) (c : Code) (R : Room), CallFix p m c cc maxL s args ws own → meth.sig.returnType = ret → meth.locks = false → f ≤ R.frames ∧ w ≤ R.locals → ∀ ls : Array Slot, lv_has ls maxL (lv_args 0 av) → Wx cl G L ad s s.heap [] σ →
      W p l e R s m args below meth c s.heap [] 0 0 (MQ below Qc args s 0 0 (Ax L ad)) (F0 m 0 ls [])) : Met l y ws (rmx f w) (Pq cl G L ad σ av) Qc 0 0 (Ax L ad) := by
  refine Met.ofW (cc := cc) (maxL := maxL) (ret := ret) hy hws ?_
  intro p e s m args below meth c s₁ B hml hv
  obtain ⟨rfl, hP, hK⟩ := hv
  have hl := lv_entry av (n := maxL) hlen
  rw [lg_entry_eq]
  exact body p e s m _ below meth c _ ⟨B.exec, B.bytes, hml, by rw [← ho]; exact findClass_of_methodNamed B.named, atoms_spec (ws := ws) B.pre⟩ B.returns B.notSynchronized ⟨Nat.le_refl _, Nat.le_refl _⟩ _ hl ⟨hK, ⟨hI, fun _ h => h⟩, hP, va_S.rf⟩
theorem x_meti {P : Int → St → Prop} (hy : plainName y.cls = true) (hws : ws = .code y cc maxL (some .int) :: ws') (ho : y.cls = own) (hlen : (lg_sl av).length ≤ maxL) (hI : Inj L ad)
    (body : ∀ (p : Program) (e : Env) (s : State) (m : MethodId) (args : Array Value) (below : List Frame) (meth : Method) (c : Code) (R : Room) (QQ : State → Prop), CallFix p m c cc maxL s args ws own → f ≤ R.frames ∧ w ≤ R.locals → (∀ (a : Int) (u : St) (H : Heap) (locs : List Loc) (ls : Array Slot) (pc : Nat), P a u → Wx cl G L ad s H locs u → decode cc pc = .ok (.ireturn, 1) → W p l e R s m args below meth c H locs 0 0 QQ (F0 m pc ls [iV a])) → ∀ ls : Array Slot, lv_has ls maxL (lv_args 0 av) → Wx cl G L ad s s.heap [] σ →
      W p l e R s m args below meth c s.heap [] 0 0 QQ (F0 m 0 ls [])) : Met l y ws (rmx f w) (Pq cl G L ad σ av) (Qi cl G L ad P) 0 0 (Ax L ad) := by
  refine x_met hy hws ho hlen hI ?_
  intro p e s m args below meth c R X hr hlocks hR ls hl hw
  refine body p e s m args below meth c R _ X hR ?_ ls hl hw
  intro a u H locs ls pc hp hw d
  exact W.iret X.1 X.2.1 hr (fun t ht hW => ⟨⟨_, (a, u), rfl, ⟨rfl, hp⟩, by rw [ht]; exact hw.2.2.1, va_K.moved hW.alike hw.1⟩, hw.2.2.2.F ht⟩) hw.2.2.2.2.2 d
theorem x_metz {P : Int → St → Prop} (hy : plainName y.cls = true) (hws : ws = .code y cc maxL (some .boolean) :: ws') (ho : y.cls = own) (hlen : (lg_sl av).length ≤ maxL) (hI : Inj L ad)
    (body : ∀ (p : Program) (e : Env) (s : State) (m : MethodId) (args : Array Value) (below : List Frame) (meth : Method) (c : Code) (R : Room) (QQ : State → Prop), CallFix p m c cc maxL s args ws own → f ≤ R.frames ∧ w ≤ R.locals → (∀ (a : Int) (u : St) (H : Heap) (locs : List Loc) (ls : Array Slot) (pc : Nat), a = 0 ∨ a = 1 → P a u → Wx cl G L ad s H locs u → decode cc pc = .ok (.ireturn, 1) → W p l e R s m args below meth c H locs 0 0 QQ (F0 m pc ls [iV a])) → ∀ ls : Array Slot, lv_has ls maxL (lv_args 0 av) → Wx cl G L ad s s.heap [] σ →
      W p l e R s m args below meth c s.heap [] 0 0 QQ (F0 m 0 ls [])) : Met l y ws (rmx f w) (Pq cl G L ad σ av) (Qz cl G L ad P) 0 0 (Ax L ad) := by
  refine x_met hy hws ho hlen hI ?_
  intro p e s m args below meth c R X hr hlocks hR ls hl hw
  refine body p e s m args below meth c R _ X hR ?_ ls hl hw
  intro a u H locs ls pc ha hp hw d
  exact W.zret X.1 X.2.1 hr (by rcases ha with rfl | rfl <;> rfl) (fun t ht hW => ⟨⟨_, (a, u), rfl, ⟨rfl, ha, hp⟩, by rw [ht]; exact hw.2.2.1, va_K.moved hW.alike hw.1⟩, hw.2.2.2.F ht⟩) hw.2.2.2.2.2 d
theorem x_metl {P : Int → St → Prop} (hy : plainName y.cls = true) (hws : ws = .code y cc maxL (some .long) :: ws') (ho : y.cls = own) (hlen : (lg_sl av).length ≤ maxL) (hI : Inj L ad)
    (body : ∀ (p : Program) (e : Env) (s : State) (m : MethodId) (args : Array Value) (below : List Frame) (meth : Method) (c : Code) (R : Room) (QQ : State → Prop), CallFix p m c cc maxL s args ws own → f ≤ R.frames ∧ w ≤ R.locals → (∀ (a : Int) (u : St) (H : Heap) (locs : List Loc) (ls : Array Slot) (pc : Nat), P a u → Wx cl G L ad s H locs u → decode cc pc = .ok (.lreturn, 1) → W p l e R s m args below meth c H locs 0 0 QQ (F0 m pc ls [lV a])) → ∀ ls : Array Slot, lv_has ls maxL (lv_args 0 av) → Wx cl G L ad s s.heap [] σ →
      W p l e R s m args below meth c s.heap [] 0 0 QQ (F0 m 0 ls [])) : Met l y ws (rmx f w) (Pq cl G L ad σ av) (Ql cl G L ad P) 0 0 (Ax L ad) := by
  refine x_met hy hws ho hlen hI ?_
  intro p e s m args below meth c R X hr hlocks hR ls hl hw
  refine body p e s m args below meth c R _ X hR ?_ ls hl hw
  intro a u H locs ls pc hp hw d
  exact W.lret X.1 X.2.1 hr (fun t ht hW => ⟨⟨_, (a, u), rfl, ⟨rfl, hp⟩, by rw [ht]; exact hw.2.2.1, va_K.moved hW.alike hw.1⟩, hw.2.2.2.F ht⟩) hw.2.2.2.2.2 d
theorem x_metv {P : St → Prop} (hy : plainName y.cls = true) (hws : ws = .code y cc maxL none :: ws') (ho : y.cls = own) (hlen : (lg_sl av).length ≤ maxL) (hI : Inj L ad)
    (body : ∀ (p : Program) (e : Env) (s : State) (m : MethodId) (args : Array Value) (below : List Frame) (meth : Method) (c : Code) (R : Room) (QQ : State → Prop), CallFix p m c cc maxL s args ws own → f ≤ R.frames ∧ w ≤ R.locals → (∀ (u : St) (H : Heap) (locs : List Loc) (ls : Array Slot) (pc : Nat), P u → Wx cl G L ad s H locs u → decode cc pc = .ok (.return_, 1) → W p l e R s m args below meth c H locs 0 0 QQ (F0 m pc ls [])) → ∀ ls : Array Slot, lv_has ls maxL (lv_args 0 av) → Wx cl G L ad s s.heap [] σ →
      W p l e R s m args below meth c s.heap [] 0 0 QQ (F0 m 0 ls [])) : Met l y ws (rmx f w) (Pq cl G L ad σ av) (Qv cl G L ad P) 0 0 (Ax L ad) := by
  refine x_met hy hws ho hlen hI ?_
  intro p e s m args below meth c R X hr hlocks hR ls hl hw
  refine body p e s m args below meth c R _ X hR ?_ ls hl hw
  intro u H locs ls pc hp hw d
  exact W.vret X.1 X.2.1 hr (fun t ht hW => ⟨⟨u, rfl, hp, by rw [ht]; exact hw.2.2.1, va_K.moved hW.alike hw.1⟩, hw.2.2.2.F ht⟩) hw.2.2.2.2.2 d
theorem x_metr {P : Nat → St → Prop} {rcls : String} (hy : plainName y.cls = true) (hws : ws = .code y cc maxL (some (.object rcls)) :: ws') (ho : y.cls = own) (hlen : (lg_sl av).length ≤ maxL) (hI : Inj L ad)
    (body : ∀ (p : Program) (e : Env) (s : State) (m : MethodId) (args : Array Value) (below : List Frame) (meth : Method) (c : Code) (R : Room) (QQ : State → Prop), CallFix p m c cc maxL s args ws own → f ≤ R.frames ∧ w ≤ R.locals → (∀ (a : Nat) (u : St) (H : Heap) (locs : List Loc) (ls : Array Slot) (pc : Nat), P a u → Wx cl G L ad s H locs u → decode cc pc = .ok (.areturn, 1) → W p l e R s m args below meth c H locs 0 0 QQ (F0 m pc ls [.ref (ad a)])) → ∀ ls : Array Slot, lv_has ls maxL (lv_args 0 av) → Wx cl G L ad s s.heap [] σ →
      W p l e R s m args below meth c s.heap [] 0 0 QQ (F0 m 0 ls [])) : Met l y ws (rmx f w) (Pq cl G L ad σ av) (Qr cl G L ad P) 0 0 (Ax L ad) := by
  refine x_met hy hws ho hlen hI ?_
  intro p e s m args below meth c R X hr hlocks hR ls hl hw
  refine body p e s m args below meth c R _ X hR ?_ ls hl hw
  intro a u H locs ls pc hp hw d
  exact W.aret X.1 X.2.1 hr (Or.inl ⟨_, rfl⟩) (Or.inr ⟨_, rfl⟩) (fun t ht hW => ⟨⟨(a, u), _, rfl, hp, rfl, by rw [ht]; exact hw.2.2.1, va_K.moved hW.alike hw.1⟩, hw.2.2.2.F ht⟩) hw.2.2.2.2.2 d
end XM
theorem x_fr {a b f : Nat} (h : f ≤ b) (hb : Nat.ble a f = true) : a ≤ b := Nat.le_trans (Nat.le_of_ble_eq_true hb) h
section XC
variable {p : Program} {l : Launch} {e : Env} {R : Room} {s : State} {m : MethodId} {args : Array Value} {below : List Frame} {meth : Method} {c : Code} {H : Heap} {locs : List Loc} {cells slots : Nat} {Q : State → Prop}
variable {cc : ByteArray} {nL : Nat} {Ts : List Cond} {own : String} {pc : Nat} {ls : Array Slot} {rest st : List Value} {cl : List vw_C} {G : GT} {L : List LC} {ad : Nat → Nat} {A : Nat → Prop} {σ : St}
variable {C : String} {y : MethodName} {bytes : ByteArray} {maxL n index : Nat} {ret : Option FieldType} {ws : List Cond} {rm : Room} {o ci N : Nat} {fs : List (Nat ⊕ Bool)} {T : u_T}
theorem x_cvi {P : Int → St → Prop} (X : CallFix p m c cc nL s args Ts own) (hw : Wy cl G L ad A s H locs σ) (As : List Value) (rest : List Value) (hM : Met l y ws rm (Pq cl G L ad σ (.ref (ad o) :: As)) (Qi cl G L ad P) 0 0 (Ax L ad)) (cw : CallW R s args own C index y bytes maxL ret ws rm 0 0 n) (hL : L[o]? = some (.inr (.inr (ci, fs)))) (hc : cl[ci]? = some (C, T, N)) (hn : As.length = n) (hl : ls.size = nL) (hst : st = As.reverse ++ .ref (ad o) :: rest) (hr : (rest.map fun v => v.category).sum ≤ 8) (d : decode cc pc = .ok (.invokevirtual index, 3)) (hf : cells ≤ R.cells ∧ slots ≤ R.slots)
    (kk : ∀ (r : Int) (u : St) (H1 : Heap) (locs1 : List Loc), P r u → Wy cl G L ad A s H1 locs1 u → W p l e R s m args below meth c H1 locs1 cells slots Q (F0 m (pc + 3) ls (iV r :: rest))) : W p l e R s m args below meth c H locs cells slots Q (F0 m pc ls st) :=
  va_calli (va_runV (As := As) (rest := rest) X hM cw ⟨Pq_blind, va_recv hw.1 hw.2.2.1 hc (wd_get hL), fun U hU hW => ⟨rfl, by rw [hU]; exact hw.2.2.1, va_K.moved hW.alike hw.1⟩⟩ rfl hn hl hst (lv_room hr) d hf) hw.2.2.2 (fun q _ h => hw.2.1.2 q h) (fun q h => hw.2.1.2 q h) (fun r u t H1 locs1 ht hvm hp hB hz hk hS => by obtain ⟨rfl, hq⟩ := hp; exact kk u.1 u.2 H1 locs1 hq ⟨hw.1, hw.2.1, ht ▸ hB.1, hS⟩)
theorem x_csi {P : Int → St → Prop} (X : CallFix p m c cc nL s args Ts own) (hw : Wy cl G L ad A s H locs σ) (As : List Value) (rest : List Value) (hM : Met l y ws rm (Pq cl G L ad σ As) (Qi cl G L ad P) 0 0 (Ax L ad)) (cw : CallB R s args own index y bytes maxL ret ws rm 0 0 n ∧ (Cond.static y).before args s = true) (hn : As.length = n) (hl : ls.size = nL) (hst : st = As.reverse ++ rest) (hr : (rest.map fun v => v.category).sum ≤ 8) (d : decode cc pc = .ok (.invokestatic index, 3)) (hf : cells ≤ R.cells ∧ slots ≤ R.slots)
    (kk : ∀ (r : Int) (u : St) (H1 : Heap) (locs1 : List Loc), P r u → Wy cl G L ad A s H1 locs1 u → W p l e R s m args below meth c H1 locs1 cells slots Q (F0 m (pc + 3) ls (iV r :: rest))) : W p l e R s m args below meth c H locs cells slots Q (F0 m pc ls st) :=
  va_calli (va_runS (As := As) (rest := rest) X hM cw ⟨Pq_blind, fun U hU hW => ⟨rfl, by rw [hU]; exact hw.2.2.1, va_K.moved hW.alike hw.1⟩⟩ rfl hn hl hst (lv_room hr) d hf) hw.2.2.2 (fun q _ h => hw.2.1.2 q h) (fun q h => hw.2.1.2 q h) (fun r u t H1 locs1 ht hvm hp hB hz hk hS => by obtain ⟨rfl, hq⟩ := hp; exact kk u.1 u.2 H1 locs1 hq ⟨hw.1, hw.2.1, ht ▸ hB.1, hS⟩)
theorem x_cvz {P : Int → St → Prop} (X : CallFix p m c cc nL s args Ts own) (hw : Wy cl G L ad A s H locs σ) (As : List Value) (rest : List Value) (hM : Met l y ws rm (Pq cl G L ad σ (.ref (ad o) :: As)) (Qz cl G L ad P) 0 0 (Ax L ad)) (cw : CallW R s args own C index y bytes maxL ret ws rm 0 0 n) (hL : L[o]? = some (.inr (.inr (ci, fs)))) (hc : cl[ci]? = some (C, T, N)) (hn : As.length = n) (hl : ls.size = nL) (hst : st = As.reverse ++ .ref (ad o) :: rest) (hr : (rest.map fun v => v.category).sum ≤ 8) (d : decode cc pc = .ok (.invokevirtual index, 3)) (hf : cells ≤ R.cells ∧ slots ≤ R.slots)
    (kk : ∀ (r : Int) (u : St) (H1 : Heap) (locs1 : List Loc), (r = 0 ∨ r = 1) → P r u → Wy cl G L ad A s H1 locs1 u → W p l e R s m args below meth c H1 locs1 cells slots Q (F0 m (pc + 3) ls (iV r :: rest))) : W p l e R s m args below meth c H locs cells slots Q (F0 m pc ls st) :=
  va_calli (va_runV (As := As) (rest := rest) X hM cw ⟨Pq_blind, va_recv hw.1 hw.2.2.1 hc (wd_get hL), fun U hU hW => ⟨rfl, by rw [hU]; exact hw.2.2.1, va_K.moved hW.alike hw.1⟩⟩ rfl hn hl hst (lv_room hr) d hf) hw.2.2.2 (fun q _ h => hw.2.1.2 q h) (fun q h => hw.2.1.2 q h) (fun r u t H1 locs1 ht hvm hp hB hz hk hS => by obtain ⟨rfl, h01, hq⟩ := hp; exact kk u.1 u.2 H1 locs1 h01 hq ⟨hw.1, hw.2.1, ht ▸ hB.1, hS⟩)
theorem x_csz {P : Int → St → Prop} (X : CallFix p m c cc nL s args Ts own) (hw : Wy cl G L ad A s H locs σ) (As : List Value) (rest : List Value) (hM : Met l y ws rm (Pq cl G L ad σ As) (Qz cl G L ad P) 0 0 (Ax L ad)) (cw : CallB R s args own index y bytes maxL ret ws rm 0 0 n ∧ (Cond.static y).before args s = true) (hn : As.length = n) (hl : ls.size = nL) (hst : st = As.reverse ++ rest) (hr : (rest.map fun v => v.category).sum ≤ 8) (d : decode cc pc = .ok (.invokestatic index, 3)) (hf : cells ≤ R.cells ∧ slots ≤ R.slots)
    (kk : ∀ (r : Int) (u : St) (H1 : Heap) (locs1 : List Loc), (r = 0 ∨ r = 1) → P r u → Wy cl G L ad A s H1 locs1 u → W p l e R s m args below meth c H1 locs1 cells slots Q (F0 m (pc + 3) ls (iV r :: rest))) : W p l e R s m args below meth c H locs cells slots Q (F0 m pc ls st) :=
  va_calli (va_runS (As := As) (rest := rest) X hM cw ⟨Pq_blind, fun U hU hW => ⟨rfl, by rw [hU]; exact hw.2.2.1, va_K.moved hW.alike hw.1⟩⟩ rfl hn hl hst (lv_room hr) d hf) hw.2.2.2 (fun q _ h => hw.2.1.2 q h) (fun q h => hw.2.1.2 q h) (fun r u t H1 locs1 ht hvm hp hB hz hk hS => by obtain ⟨rfl, h01, hq⟩ := hp; exact kk u.1 u.2 H1 locs1 h01 hq ⟨hw.1, hw.2.1, ht ▸ hB.1, hS⟩)
theorem x_cvl {P : Int → St → Prop} (X : CallFix p m c cc nL s args Ts own) (hw : Wy cl G L ad A s H locs σ) (As : List Value) (rest : List Value) (hM : Met l y ws rm (Pq cl G L ad σ (.ref (ad o) :: As)) (Ql cl G L ad P) 0 0 (Ax L ad)) (cw : CallW R s args own C index y bytes maxL ret ws rm 0 0 n) (hL : L[o]? = some (.inr (.inr (ci, fs)))) (hc : cl[ci]? = some (C, T, N)) (hn : As.length = n) (hl : ls.size = nL) (hst : st = As.reverse ++ .ref (ad o) :: rest) (hr : (rest.map fun v => v.category).sum ≤ 8) (d : decode cc pc = .ok (.invokevirtual index, 3)) (hf : cells ≤ R.cells ∧ slots ≤ R.slots)
    (kk : ∀ (r : Int) (u : St) (H1 : Heap) (locs1 : List Loc), P r u → Wy cl G L ad A s H1 locs1 u → W p l e R s m args below meth c H1 locs1 cells slots Q (F0 m (pc + 3) ls (lV r :: rest))) : W p l e R s m args below meth c H locs cells slots Q (F0 m pc ls st) :=
  va_calll (va_runV (As := As) (rest := rest) X hM cw ⟨Pq_blind, va_recv hw.1 hw.2.2.1 hc (wd_get hL), fun U hU hW => ⟨rfl, by rw [hU]; exact hw.2.2.1, va_K.moved hW.alike hw.1⟩⟩ rfl hn hl hst (lv_room hr) d hf) hw.2.2.2 (fun q _ h => hw.2.1.2 q h) (fun q h => hw.2.1.2 q h) (fun r u t H1 locs1 ht hvm hp hB hz hk hS => by obtain ⟨rfl, hq⟩ := hp; exact kk u.1 u.2 H1 locs1 hq ⟨hw.1, hw.2.1, ht ▸ hB.1, hS⟩)
theorem x_csl {P : Int → St → Prop} (X : CallFix p m c cc nL s args Ts own) (hw : Wy cl G L ad A s H locs σ) (As : List Value) (rest : List Value) (hM : Met l y ws rm (Pq cl G L ad σ As) (Ql cl G L ad P) 0 0 (Ax L ad)) (cw : CallB R s args own index y bytes maxL ret ws rm 0 0 n ∧ (Cond.static y).before args s = true) (hn : As.length = n) (hl : ls.size = nL) (hst : st = As.reverse ++ rest) (hr : (rest.map fun v => v.category).sum ≤ 8) (d : decode cc pc = .ok (.invokestatic index, 3)) (hf : cells ≤ R.cells ∧ slots ≤ R.slots)
    (kk : ∀ (r : Int) (u : St) (H1 : Heap) (locs1 : List Loc), P r u → Wy cl G L ad A s H1 locs1 u → W p l e R s m args below meth c H1 locs1 cells slots Q (F0 m (pc + 3) ls (lV r :: rest))) : W p l e R s m args below meth c H locs cells slots Q (F0 m pc ls st) :=
  va_calll (va_runS (As := As) (rest := rest) X hM cw ⟨Pq_blind, fun U hU hW => ⟨rfl, by rw [hU]; exact hw.2.2.1, va_K.moved hW.alike hw.1⟩⟩ rfl hn hl hst (lv_room hr) d hf) hw.2.2.2 (fun q _ h => hw.2.1.2 q h) (fun q h => hw.2.1.2 q h) (fun r u t H1 locs1 ht hvm hp hB hz hk hS => by obtain ⟨rfl, hq⟩ := hp; exact kk u.1 u.2 H1 locs1 hq ⟨hw.1, hw.2.1, ht ▸ hB.1, hS⟩)
theorem x_cvv {P : St → Prop} (X : CallFix p m c cc nL s args Ts own) (hw : Wy cl G L ad A s H locs σ) (As : List Value) (rest : List Value) (hM : Met l y ws rm (Pq cl G L ad σ (.ref (ad o) :: As)) (Qv cl G L ad P) 0 0 (Ax L ad)) (cw : CallW R s args own C index y bytes maxL ret ws rm 0 0 n) (hL : L[o]? = some (.inr (.inr (ci, fs)))) (hc : cl[ci]? = some (C, T, N)) (hn : As.length = n) (hl : ls.size = nL) (hst : st = As.reverse ++ .ref (ad o) :: rest) (hr : (rest.map fun v => v.category).sum ≤ 8) (d : decode cc pc = .ok (.invokevirtual index, 3)) (hf : cells ≤ R.cells ∧ slots ≤ R.slots)
    (kk : ∀ (u : St) (H1 : Heap) (locs1 : List Loc), P u → Wy cl G L ad A s H1 locs1 u → W p l e R s m args below meth c H1 locs1 cells slots Q (F0 m (pc + 3) ls (rest))) : W p l e R s m args below meth c H locs cells slots Q (F0 m pc ls st) :=
  va_callv (va_runV (As := As) (rest := rest) X hM cw ⟨Pq_blind, va_recv hw.1 hw.2.2.1 hc (wd_get hL), fun U hU hW => ⟨rfl, by rw [hU]; exact hw.2.2.1, va_K.moved hW.alike hw.1⟩⟩ rfl hn hl hst (lv_room hr) d hf) hw.2.2.2 (fun q _ h => hw.2.1.2 q h) (fun q h => hw.2.1.2 q h) (fun u t H1 locs1 ht hvm hq hB hz hk hS => kk u H1 locs1 hq ⟨hw.1, hw.2.1, ht ▸ hB.1, hS⟩)
theorem x_csv {P : St → Prop} (X : CallFix p m c cc nL s args Ts own) (hw : Wy cl G L ad A s H locs σ) (As : List Value) (rest : List Value) (hM : Met l y ws rm (Pq cl G L ad σ As) (Qv cl G L ad P) 0 0 (Ax L ad)) (cw : CallB R s args own index y bytes maxL ret ws rm 0 0 n ∧ (Cond.static y).before args s = true) (hn : As.length = n) (hl : ls.size = nL) (hst : st = As.reverse ++ rest) (hr : (rest.map fun v => v.category).sum ≤ 8) (d : decode cc pc = .ok (.invokestatic index, 3)) (hf : cells ≤ R.cells ∧ slots ≤ R.slots)
    (kk : ∀ (u : St) (H1 : Heap) (locs1 : List Loc), P u → Wy cl G L ad A s H1 locs1 u → W p l e R s m args below meth c H1 locs1 cells slots Q (F0 m (pc + 3) ls (rest))) : W p l e R s m args below meth c H locs cells slots Q (F0 m pc ls st) :=
  va_callv (va_runS (As := As) (rest := rest) X hM cw ⟨Pq_blind, fun U hU hW => ⟨rfl, by rw [hU]; exact hw.2.2.1, va_K.moved hW.alike hw.1⟩⟩ rfl hn hl hst (lv_room hr) d hf) hw.2.2.2 (fun q _ h => hw.2.1.2 q h) (fun q h => hw.2.1.2 q h) (fun u t H1 locs1 ht hvm hq hB hz hk hS => kk u H1 locs1 hq ⟨hw.1, hw.2.1, ht ▸ hB.1, hS⟩)
theorem x_cvr {P : Nat → St → Prop} (X : CallFix p m c cc nL s args Ts own) (hw : Wy cl G L ad A s H locs σ) (As : List Value) (rest : List Value) (hM : Met l y ws rm (Pq cl G L ad σ (.ref (ad o) :: As)) (Qr cl G L ad P) 0 0 (Ax L ad)) (cw : CallW R s args own C index y bytes maxL ret ws rm 0 0 n) (hL : L[o]? = some (.inr (.inr (ci, fs)))) (hc : cl[ci]? = some (C, T, N)) (hn : As.length = n) (hl : ls.size = nL) (hst : st = As.reverse ++ .ref (ad o) :: rest) (hr : (rest.map fun v => v.category).sum ≤ 8) (d : decode cc pc = .ok (.invokevirtual index, 3)) (hf : cells ≤ R.cells ∧ slots ≤ R.slots)
    (kk : ∀ (r : Nat) (u : St) (H1 : Heap) (locs1 : List Loc), P r u → Wy cl G L ad A s H1 locs1 u → W p l e R s m args below meth c H1 locs1 cells slots Q (F0 m (pc + 3) ls (.ref (ad r) :: rest))) : W p l e R s m args below meth c H locs cells slots Q (F0 m pc ls st) :=
  va_callr (va_runV (As := As) (rest := rest) X hM cw ⟨Pq_blind, va_recv hw.1 hw.2.2.1 hc (wd_get hL), fun U hU hW => ⟨rfl, by rw [hU]; exact hw.2.2.1, va_K.moved hW.alike hw.1⟩⟩ rfl hn hl hst (lv_room hr) d hf) hw.2.2.2 (fun q _ h => hw.2.1.2 q h) (fun q h => hw.2.1.2 q h) (fun u ra t H1 locs1 ht hvm hq hB hz hk hS => by obtain ⟨rfl, hB⟩ := hB; exact kk u.1 u.2 H1 locs1 hq ⟨hw.1, hw.2.1, ht ▸ hB.1, hS⟩)
theorem x_csr {P : Nat → St → Prop} (X : CallFix p m c cc nL s args Ts own) (hw : Wy cl G L ad A s H locs σ) (As : List Value) (rest : List Value) (hM : Met l y ws rm (Pq cl G L ad σ As) (Qr cl G L ad P) 0 0 (Ax L ad)) (cw : CallB R s args own index y bytes maxL ret ws rm 0 0 n ∧ (Cond.static y).before args s = true) (hn : As.length = n) (hl : ls.size = nL) (hst : st = As.reverse ++ rest) (hr : (rest.map fun v => v.category).sum ≤ 8) (d : decode cc pc = .ok (.invokestatic index, 3)) (hf : cells ≤ R.cells ∧ slots ≤ R.slots)
    (kk : ∀ (r : Nat) (u : St) (H1 : Heap) (locs1 : List Loc), P r u → Wy cl G L ad A s H1 locs1 u → W p l e R s m args below meth c H1 locs1 cells slots Q (F0 m (pc + 3) ls (.ref (ad r) :: rest))) : W p l e R s m args below meth c H locs cells slots Q (F0 m pc ls st) :=
  va_callr (va_runS (As := As) (rest := rest) X hM cw ⟨Pq_blind, fun U hU hW => ⟨rfl, by rw [hU]; exact hw.2.2.1, va_K.moved hW.alike hw.1⟩⟩ rfl hn hl hst (lv_room hr) d hf) hw.2.2.2 (fun q _ h => hw.2.1.2 q h) (fun q h => hw.2.1.2 q h) (fun u ra t H1 locs1 ht hvm hq hB hz hk hS => by obtain ⟨rfl, hB⟩ := hB; exact kk u.1 u.2 H1 locs1 hq ⟨hw.1, hw.2.1, ht ▸ hB.1, hS⟩)
def mxi (a b : Int) : Int := if i32 a < i32 b then b else a
def mni (a b : Int) : Int := if i32 b < i32 a then b else a
def mab (a : Int) : Int := if 0 ≤ i32 a then a else 0 - a
theorem x_mmax (X : CallFix p m c cc nL s args Ts own) {a b : Int} (hl : ls.size = nL) (w1 : Cond.methodLink own index Lib.Math.max.name ∈ Ts) (w2 : Cond.static Lib.Math.max.name ∈ Ts) (w3 : Cond.initialized "java/lang/Math" ∈ Ts) (w4 : Cond.code Lib.Math.max.name Lib.Math.max.code 2 (some .int) ∈ Ts) (h1 : 1 ≤ R.frames) (h2 : (rest.map fun v => v.category).sum + 13 ≤ R.locals) (hf : cells ≤ R.cells ∧ slots ≤ R.slots) (d : decode cc pc = .ok (.invokestatic index, 3)) (k : W p l e R s m args below meth c H locs cells slots Q (F0 m (pc + 3) ls (iV (mxi a b) :: rest))) : W p l e R s m args below meth c H locs cells slots Q (F0 m pc ls (iV b :: iV a :: rest)) := by
  refine va_mmax X.1 X.2.1 (by rw [X.2.2.1, hl]) X.2.2.2.1 (X.2.2.2.2 _ w1) (X.2.2.2.2 _ w2) (X.2.2.2.2 _ w3) (X.2.2.2.2 _ w4) h1 h2 hf.1 hf.2 d ?_
  have e : (if Int32.ofInt a < Int32.ofInt b then Int32.ofInt b else Int32.ofInt a) = Int32.ofInt (mxi a b) := by
    unfold mxi
    by_cases h : i32 a < i32 b
    · rw [if_pos h, if_pos (x_lt.mpr h)]
    · rw [if_neg h, if_neg (fun z => h (x_lt.mp z))]
  rw [e]
  exact k
theorem x_mmin (X : CallFix p m c cc nL s args Ts own) {a b : Int} (hl : ls.size = nL) (w1 : Cond.methodLink own index Lib.Math.min.name ∈ Ts) (w2 : Cond.static Lib.Math.min.name ∈ Ts) (w3 : Cond.initialized "java/lang/Math" ∈ Ts) (w4 : Cond.code Lib.Math.min.name Lib.Math.min.code 2 (some .int) ∈ Ts) (h1 : 1 ≤ R.frames) (h2 : (rest.map fun v => v.category).sum + 13 ≤ R.locals) (hf : cells ≤ R.cells ∧ slots ≤ R.slots) (d : decode cc pc = .ok (.invokestatic index, 3)) (k : W p l e R s m args below meth c H locs cells slots Q (F0 m (pc + 3) ls (iV (mni a b) :: rest))) : W p l e R s m args below meth c H locs cells slots Q (F0 m pc ls (iV b :: iV a :: rest)) := by
  refine va_mmin X.1 X.2.1 (by rw [X.2.2.1, hl]) X.2.2.2.1 (X.2.2.2.2 _ w1) (X.2.2.2.2 _ w2) (X.2.2.2.2 _ w3) (X.2.2.2.2 _ w4) h1 h2 hf.1 hf.2 d ?_
  have e : (if Int32.ofInt b < Int32.ofInt a then Int32.ofInt b else Int32.ofInt a) = Int32.ofInt (mni a b) := by
    unfold mni
    by_cases h : i32 b < i32 a
    · rw [if_pos h, if_pos (x_lt.mpr h)]
    · rw [if_neg h, if_neg (fun z => h (x_lt.mp z))]
  rw [e]
  exact k
theorem x_mabs (X : CallFix p m c cc nL s args Ts own) {a : Int} (hl : ls.size = nL) (w1 : Cond.methodLink own index Lib.Math.abs.name ∈ Ts) (w2 : Cond.static Lib.Math.abs.name ∈ Ts) (w3 : Cond.initialized "java/lang/Math" ∈ Ts) (w4 : Cond.code Lib.Math.abs.name Lib.Math.abs.code 1 (some .int) ∈ Ts) (h1 : 1 ≤ R.frames) (h2 : (rest.map fun v => v.category).sum + 13 ≤ R.locals) (hf : cells ≤ R.cells ∧ slots ≤ R.slots) (d : decode cc pc = .ok (.invokestatic index, 3)) (k : W p l e R s m args below meth c H locs cells slots Q (F0 m (pc + 3) ls (iV (mab a) :: rest))) : W p l e R s m args below meth c H locs cells slots Q (F0 m pc ls (iV a :: rest)) := by
  refine va_mabs X.1 X.2.1 (by rw [X.2.2.1, hl]) X.2.2.2.1 (X.2.2.2.2 _ w1) (X.2.2.2.2 _ w2) (X.2.2.2.2 _ w3) (X.2.2.2.2 _ w4) h1 h2 hf.1 hf.2 d ?_
  have e : (if 0 ≤ Int32.ofInt a then Int32.ofInt a else 0 - Int32.ofInt a) = Int32.ofInt (mab a) := by
    unfold mab
    by_cases h : 0 ≤ i32 a
    · rw [if_pos h, if_pos (x_0le.mpr h)]
    · rw [if_neg h, if_neg (fun z => h (x_0le.mp z)), Int32.ofInt_sub]
      rfl
  rw [e]
  exact k
theorem x_copyi (X : CallFix p m c cc nL s args Ts own) (hw : Wy cl G L ad A s H locs σ) (hl : ls.size = nL) (w1 : Cond.methodLink own index arraycopyName ∈ Ts) (w2 : Cond.native arraycopyName ∈ Ts) (w3 : Cond.static arraycopyName ∈ Ts) (w4 : Cond.initialized "java/lang/System" ∈ Ts) {k0 k1 n0 n1 : Nat} (h0 : L[k0]? = some (.inl (false, n0))) (h1 : L[k1]? = some (.inl (false, n1))) {a n' : Int} (n : Nat) (hn' : n' = (n : Int)) (ha : i32 a = n') (hn0 : n ≤ n0) (hn1 : n ≤ n1) (hfr : 1 ≤ R.frames) (hlo : (rest.map fun v => v.category).sum + (nativeFrameWords "java/lang/System" "arraycopy" 5 + 11) ≤ R.locals) (d : decode cc pc = .ok (.invokestatic index, 3)) (kk : ∀ (H1 : Heap) (locs1 : List Loc) (σ1 : St), σ1 = sf σ k1 (fun i => if 0 ≤ i ∧ i < n' then σ k0 i else σ k1 i) → Wy cl G L ad A s H1 locs1 σ1 → W p l e R s m args below meth c H1 locs1 cells slots Q (F0 m (pc + 3) ls rest)) : W p l e R s m args below meth c H locs cells slots Q (F0 m pc ls (iV a :: iV 0 :: .ref (ad k1) :: iV 0 :: .ref (ad k0) :: rest)) := by
  subst hn'
  have hz : (Int32.ofInt a).toNatClampNeg = n := by
    show (Int32.ofInt a).toInt.toNat = n
    have : (Int32.ofInt a).toInt = (n : Int) := ha
    rw [this]; rfl
  have h00 : (Int32.ofInt 0).toNatClampNeg = 0 := by decide
  refine va_copyi (D := G.2) (cl := cl) X.1 X.2.1 (by rw [X.2.2.1, hl]) X.2.2.2.1 (X.2.2.2.2 _ w1) (X.2.2.2.2 _ w2) (X.2.2.2.2 _ w3) (X.2.2.2.2 _ w4) hw.1 hw.2.2.1 (wd_D σ hw.2.1.1 hw.2.1.2) hw.2.2.2 k0 k1 0 0 (wd_get h0) (wd_get h1) rfl rfl rfl (by decide) (by decide) (fun z => by have := x_lt0.mp z; omega) (by rw [h00, hz]; omega) (by rw [h00, hz]; omega) (fun i _ => rfl) hfr hlo d (fun H1 locs1 hP hD hS => ?_)
  refine kk H1 locs1 _ rfl ⟨hw.1, hw.2.1, ?_, hS⟩
  rw [← wd_set h1]
  rw [h00, hz] at hP
  have e : va_cpy (fun j : Nat => Int32.ofInt (σ k0 j)) (fun j : Nat => Int32.ofInt (σ k1 j)) 0 0 n = (fun j : Nat => Int32.ofInt (if 0 ≤ (j : Int) ∧ (j : Int) < n then σ k0 j else σ k1 j)) := by
    funext j
    unfold va_cpy
    by_cases hj : j < n
    · rw [if_pos ⟨Nat.zero_le _, by omega⟩, if_pos ⟨by omega, by omega⟩]
      simp
    · rw [if_neg (by omega), if_neg (by omega)]
  rw [e] at hP
  exact hP
end XC
/-- a loop with 0 numbers: an invariant with a measure that falls -/
def WL0 (B : (St → Prop) → St → Prop)  (σ : St) : Prop := ∃ (I : Nat → St → Prop) (n : Nat), I n  σ ∧ ∀ (n : Nat)  (σ : St), I n  σ → B (fun (τ : St) => ∃ k : Nat, k < n ∧ I k τ)  σ
theorem WL0.use {B : (St → Prop) → St → Prop} {Gl : St → Prop} (step : ∀ (bk : St → Prop)  (σ : St), (∀  (σ : St), bk  σ → Gl  σ) → B bk  σ → Gl  σ)  {σ : St} (h : WL0 B  σ) : Gl  σ := by
  obtain ⟨I, n, h0, hs⟩ := h
  induction n using Nat.strongRecOn generalizing  σ with
  | ind n ih => exact step _  σ (fun  τ hk => by obtain ⟨k, hk, hI⟩ := hk; exact ih k hk hI) (hs n  σ h0)
/-- a loop with 1 numbers: an invariant with a measure that falls -/
def WL1 (B : (Int → St → Prop) → Int → St → Prop) (a0 : Int) (σ : St) : Prop := ∃ (I : Nat → Int → St → Prop) (n : Nat), I n a0 σ ∧ ∀ (n : Nat) (a0 : Int) (σ : St), I n a0 σ → B (fun (a0 : Int) (τ : St) => ∃ k : Nat, k < n ∧ I k a0 τ) a0 σ
theorem WL1.use {B : (Int → St → Prop) → Int → St → Prop} {Gl : Int → St → Prop} (step : ∀ (bk : Int → St → Prop) (a0 : Int) (σ : St), (∀ (a0 : Int) (σ : St), bk a0 σ → Gl a0 σ) → B bk a0 σ → Gl a0 σ) {a0 : Int} {σ : St} (h : WL1 B a0 σ) : Gl a0 σ := by
  obtain ⟨I, n, h0, hs⟩ := h
  induction n using Nat.strongRecOn generalizing a0 σ with
  | ind n ih => exact step _ a0 σ (fun b0 τ hk => by obtain ⟨k, hk, hI⟩ := hk; exact ih k hk hI) (hs n a0 σ h0)
/-- a loop with 2 numbers: an invariant with a measure that falls -/
def WL2 (B : (Int → Int → St → Prop) → Int → Int → St → Prop) (a0 : Int) (a1 : Int) (σ : St) : Prop := ∃ (I : Nat → Int → Int → St → Prop) (n : Nat), I n a0 a1 σ ∧ ∀ (n : Nat) (a0 : Int) (a1 : Int) (σ : St), I n a0 a1 σ → B (fun (a0 : Int) (a1 : Int) (τ : St) => ∃ k : Nat, k < n ∧ I k a0 a1 τ) a0 a1 σ
theorem WL2.use {B : (Int → Int → St → Prop) → Int → Int → St → Prop} {Gl : Int → Int → St → Prop} (step : ∀ (bk : Int → Int → St → Prop) (a0 : Int) (a1 : Int) (σ : St), (∀ (a0 : Int) (a1 : Int) (σ : St), bk a0 a1 σ → Gl a0 a1 σ) → B bk a0 a1 σ → Gl a0 a1 σ) {a0 : Int} {a1 : Int} {σ : St} (h : WL2 B a0 a1 σ) : Gl a0 a1 σ := by
  obtain ⟨I, n, h0, hs⟩ := h
  induction n using Nat.strongRecOn generalizing a0 a1 σ with
  | ind n ih => exact step _ a0 a1 σ (fun b0 b1 τ hk => by obtain ⟨k, hk, hI⟩ := hk; exact ih k hk hI) (hs n a0 a1 σ h0)
/-- a loop with 3 numbers: an invariant with a measure that falls -/
def WL3 (B : (Int → Int → Int → St → Prop) → Int → Int → Int → St → Prop) (a0 : Int) (a1 : Int) (a2 : Int) (σ : St) : Prop := ∃ (I : Nat → Int → Int → Int → St → Prop) (n : Nat), I n a0 a1 a2 σ ∧ ∀ (n : Nat) (a0 : Int) (a1 : Int) (a2 : Int) (σ : St), I n a0 a1 a2 σ → B (fun (a0 : Int) (a1 : Int) (a2 : Int) (τ : St) => ∃ k : Nat, k < n ∧ I k a0 a1 a2 τ) a0 a1 a2 σ
theorem WL3.use {B : (Int → Int → Int → St → Prop) → Int → Int → Int → St → Prop} {Gl : Int → Int → Int → St → Prop} (step : ∀ (bk : Int → Int → Int → St → Prop) (a0 : Int) (a1 : Int) (a2 : Int) (σ : St), (∀ (a0 : Int) (a1 : Int) (a2 : Int) (σ : St), bk a0 a1 a2 σ → Gl a0 a1 a2 σ) → B bk a0 a1 a2 σ → Gl a0 a1 a2 σ) {a0 : Int} {a1 : Int} {a2 : Int} {σ : St} (h : WL3 B a0 a1 a2 σ) : Gl a0 a1 a2 σ := by
  obtain ⟨I, n, h0, hs⟩ := h
  induction n using Nat.strongRecOn generalizing a0 a1 a2 σ with
  | ind n ih => exact step _ a0 a1 a2 σ (fun b0 b1 b2 τ hk => by obtain ⟨k, hk, hI⟩ := hk; exact ih k hk hI) (hs n a0 a1 a2 σ h0)
/-- a loop with 4 numbers: an invariant with a measure that falls -/
def WL4 (B : (Int → Int → Int → Int → St → Prop) → Int → Int → Int → Int → St → Prop) (a0 : Int) (a1 : Int) (a2 : Int) (a3 : Int) (σ : St) : Prop := ∃ (I : Nat → Int → Int → Int → Int → St → Prop) (n : Nat), I n a0 a1 a2 a3 σ ∧ ∀ (n : Nat) (a0 : Int) (a1 : Int) (a2 : Int) (a3 : Int) (σ : St), I n a0 a1 a2 a3 σ → B (fun (a0 : Int) (a1 : Int) (a2 : Int) (a3 : Int) (τ : St) => ∃ k : Nat, k < n ∧ I k a0 a1 a2 a3 τ) a0 a1 a2 a3 σ
theorem WL4.use {B : (Int → Int → Int → Int → St → Prop) → Int → Int → Int → Int → St → Prop} {Gl : Int → Int → Int → Int → St → Prop} (step : ∀ (bk : Int → Int → Int → Int → St → Prop) (a0 : Int) (a1 : Int) (a2 : Int) (a3 : Int) (σ : St), (∀ (a0 : Int) (a1 : Int) (a2 : Int) (a3 : Int) (σ : St), bk a0 a1 a2 a3 σ → Gl a0 a1 a2 a3 σ) → B bk a0 a1 a2 a3 σ → Gl a0 a1 a2 a3 σ) {a0 : Int} {a1 : Int} {a2 : Int} {a3 : Int} {σ : St} (h : WL4 B a0 a1 a2 a3 σ) : Gl a0 a1 a2 a3 σ := by
  obtain ⟨I, n, h0, hs⟩ := h
  induction n using Nat.strongRecOn generalizing a0 a1 a2 a3 σ with
  | ind n ih => exact step _ a0 a1 a2 a3 σ (fun b0 b1 b2 b3 τ hk => by obtain ⟨k, hk, hI⟩ := hk; exact ih k hk hI) (hs n a0 a1 a2 a3 σ h0)
/-- a loop with 5 numbers: an invariant with a measure that falls -/
def WL5 (B : (Int → Int → Int → Int → Int → St → Prop) → Int → Int → Int → Int → Int → St → Prop) (a0 : Int) (a1 : Int) (a2 : Int) (a3 : Int) (a4 : Int) (σ : St) : Prop := ∃ (I : Nat → Int → Int → Int → Int → Int → St → Prop) (n : Nat), I n a0 a1 a2 a3 a4 σ ∧ ∀ (n : Nat) (a0 : Int) (a1 : Int) (a2 : Int) (a3 : Int) (a4 : Int) (σ : St), I n a0 a1 a2 a3 a4 σ → B (fun (a0 : Int) (a1 : Int) (a2 : Int) (a3 : Int) (a4 : Int) (τ : St) => ∃ k : Nat, k < n ∧ I k a0 a1 a2 a3 a4 τ) a0 a1 a2 a3 a4 σ
theorem WL5.use {B : (Int → Int → Int → Int → Int → St → Prop) → Int → Int → Int → Int → Int → St → Prop} {Gl : Int → Int → Int → Int → Int → St → Prop} (step : ∀ (bk : Int → Int → Int → Int → Int → St → Prop) (a0 : Int) (a1 : Int) (a2 : Int) (a3 : Int) (a4 : Int) (σ : St), (∀ (a0 : Int) (a1 : Int) (a2 : Int) (a3 : Int) (a4 : Int) (σ : St), bk a0 a1 a2 a3 a4 σ → Gl a0 a1 a2 a3 a4 σ) → B bk a0 a1 a2 a3 a4 σ → Gl a0 a1 a2 a3 a4 σ) {a0 : Int} {a1 : Int} {a2 : Int} {a3 : Int} {a4 : Int} {σ : St} (h : WL5 B a0 a1 a2 a3 a4 σ) : Gl a0 a1 a2 a3 a4 σ := by
  obtain ⟨I, n, h0, hs⟩ := h
  induction n using Nat.strongRecOn generalizing a0 a1 a2 a3 a4 σ with
  | ind n ih => exact step _ a0 a1 a2 a3 a4 σ (fun b0 b1 b2 b3 b4 τ hk => by obtain ⟨k, hk, hI⟩ := hk; exact ih k hk hI) (hs n a0 a1 a2 a3 a4 σ h0)
/-- a loop with 6 numbers: an invariant with a measure that falls -/
def WL6 (B : (Int → Int → Int → Int → Int → Int → St → Prop) → Int → Int → Int → Int → Int → Int → St → Prop) (a0 : Int) (a1 : Int) (a2 : Int) (a3 : Int) (a4 : Int) (a5 : Int) (σ : St) : Prop := ∃ (I : Nat → Int → Int → Int → Int → Int → Int → St → Prop) (n : Nat), I n a0 a1 a2 a3 a4 a5 σ ∧ ∀ (n : Nat) (a0 : Int) (a1 : Int) (a2 : Int) (a3 : Int) (a4 : Int) (a5 : Int) (σ : St), I n a0 a1 a2 a3 a4 a5 σ → B (fun (a0 : Int) (a1 : Int) (a2 : Int) (a3 : Int) (a4 : Int) (a5 : Int) (τ : St) => ∃ k : Nat, k < n ∧ I k a0 a1 a2 a3 a4 a5 τ) a0 a1 a2 a3 a4 a5 σ
theorem WL6.use {B : (Int → Int → Int → Int → Int → Int → St → Prop) → Int → Int → Int → Int → Int → Int → St → Prop} {Gl : Int → Int → Int → Int → Int → Int → St → Prop} (step : ∀ (bk : Int → Int → Int → Int → Int → Int → St → Prop) (a0 : Int) (a1 : Int) (a2 : Int) (a3 : Int) (a4 : Int) (a5 : Int) (σ : St), (∀ (a0 : Int) (a1 : Int) (a2 : Int) (a3 : Int) (a4 : Int) (a5 : Int) (σ : St), bk a0 a1 a2 a3 a4 a5 σ → Gl a0 a1 a2 a3 a4 a5 σ) → B bk a0 a1 a2 a3 a4 a5 σ → Gl a0 a1 a2 a3 a4 a5 σ) {a0 : Int} {a1 : Int} {a2 : Int} {a3 : Int} {a4 : Int} {a5 : Int} {σ : St} (h : WL6 B a0 a1 a2 a3 a4 a5 σ) : Gl a0 a1 a2 a3 a4 a5 σ := by
  obtain ⟨I, n, h0, hs⟩ := h
  induction n using Nat.strongRecOn generalizing a0 a1 a2 a3 a4 a5 σ with
  | ind n ih => exact step _ a0 a1 a2 a3 a4 a5 σ (fun b0 b1 b2 b3 b4 b5 τ hk => by obtain ⟨k, hk, hI⟩ := hk; exact ih k hk hI) (hs n a0 a1 a2 a3 a4 a5 σ h0)
