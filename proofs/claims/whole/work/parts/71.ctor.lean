-- CONSTRUCTORS: their contracts, and a call of one
def shF (n : Nat) : Nat ⊕ Bool → Nat ⊕ Bool
  | .inl 0 => .inl 0
  | .inl (k + 1) => .inl (n + (k + 1))
  | .inr b => .inr b
def shC (n : Nat) : LC → LC
  | .inl x => .inl x
  | .inr (.inl (m, ks)) => .inr (.inl (m, ks.map (fun k => n + k)))
  | .inr (.inr (ci, fs)) => .inr (.inr (ci, fs.map (shF n)))
theorem fV_sh {n : Nat} {ad adC : Nat → Nat} (e : ∀ k, ad (n + k) = adC k) (q : Nat ⊕ Bool) (x : Int) : fV ad (shF n q) x = fV adC q x := by
  match q with
  | .inl 0 => rfl
  | .inl (k + 1) =>
    show Value.ref (ad (n + (k + 1))) = Value.ref (adC (k + 1))
    rw [e]
  | .inr false => rfl
  | .inr true => rfl
theorem cE_sh {G : GT} {n : Nat} {ad adC : Nat → Nat} (e : ∀ k, ad (n + k) = adC k) (c : LC) (f : Int → Int) : cE G ad (shC n c) f = cE G adC c f := by
  match c with
  | .inl (false, m) => rfl
  | .inl (true, m) => rfl
  | .inr (.inl (m, ks)) =>
    show Sum.inl (G.1.2.2, m, Sum.inr (Sum.inr (Sum.inr (Sum.inr (fun j : Nat => ((ks.map (fun k => n + k))[j]?).map ad))))) = Sum.inl (G.1.2.2, m, Sum.inr (Sum.inr (Sum.inr (Sum.inr (fun j : Nat => (ks[j]?).map adC)))))
    have : (fun j : Nat => ((ks.map (fun k => n + k))[j]?).map ad) = (fun j : Nat => (ks[j]?).map adC) := by
      funext j
      rw [List.getElem?_map, Option.map_map]
      congr 1
      funext k
      exact e k
    rw [this]
  | .inr (.inr (ci, fs)) =>
    show Sum.inr (ci, (fs.map (shF n)).mapIdx (fun (j : Nat) q => fV ad q (f j))) = Sum.inr (ci, fs.mapIdx (fun (j : Nat) q => fV adC q (f j)))
    congr 2
    apply List.ext_getElem?
    intro j
    rw [List.getElem?_mapIdx, List.getElem?_mapIdx, List.getElem?_map]
    cases hj : fs[j]? with
    | none => rfl
    | some q =>
      rw [Option.map_some, Option.map_some, Option.map_some, fV_sh e]
theorem wd_sh {G : GT} {L M : List LC} {ad ad' adC : Nat → Nat} {σ σ' σC : St} (h : allLow L = true) (e : ∀ k, k < L.length → ad' k = ad k) (es : ∀ k, k < L.length → σ' k = σ k) (e2 : ∀ k, ad' (L.length + k) = adC k) (es2 : ∀ k, σ' (L.length + k) = σC k) : wd G (L ++ M.map (shC L.length)) ad' σ' = wd G L ad σ ++ wd G M adC σC := by
  rw [← wd_low (G := G) h e es]
  unfold wd
  rw [List.mapIdx_append]
  congr 1
  apply List.ext_getElem?
  intro j
  rw [List.getElem?_mapIdx, List.getElem?_mapIdx, List.getElem?_map]
  cases hj : M[j]? with
  | none => rfl
  | some c =>
    rw [Option.map_some, Option.map_some, Option.map_some, Nat.add_comm j L.length, e2, es2, cE_sh e2]
def Af (h0 sz : Nat) : Nat → Prop := fun q => q = h0 ∨ sz ≤ q
def Kp (cl : List vw_C) (G : GT) (c0 : LC) (Z : State → Prop) (h0 sz : Nat) : Array Value → State → Prop := va_Pc [.ref h0] (fun U => U.heap.size = sz ∧ Bq cl G [c0] (fun _ => h0) (fun _ _ => 0) U ∧ Z U)
def Kq (cl : List vw_C) (G : GT) (M : List LC) (P : St → Prop) (h0 sz : Nat) : Array Value → State → Outcome → State → Prop := va_Qv (fun u : (Nat → Nat) × St => (u.1 0 = h0 ∧ Inj M u.1 ∧ ∀ k, 0 < k → k < M.length → sz ≤ u.1 k) ∧ P u.2) (fun u t => Bq cl G M u.1 u.2 t) (Af h0 sz)
abbrev rmc (f w mc ms : Nat) : Room := { frames := f, cells := mc, slots := ms, locals := w }
def Zb (Z : State → Prop) : Prop := ∀ (a : Array Value) (U : State) (g : JFrame) (mk : MethodId), Z U → Z (U.calling g mk a)
theorem Kp_blind {cl : List vw_C} {G : GT} {c0 : LC} {Z : State → Prop} {h0 sz : Nat} (hZ : Zb Z) : FrameBlind (Kp cl G c0 Z h0 sz) := fun a U g mk q => by
  obtain ⟨q0, q1, ⟨qP, qK⟩, qZ⟩ := q
  exact ⟨q0, q1, ⟨qP, va_K.moved (u := U) (U := U.calling g mk a) (Vm.Alike.refl U.vm) qK⟩, hZ a U g mk qZ⟩
theorem x_metc {l : Launch} {y : MethodName} {ws ws' : List Cond} {cc : ByteArray} {maxL : Nat} {f w mc ms : Nat} {cl : List vw_C} {G : GT} {M : List LC} {c0 : LC} {P : St → Prop} {Z : State → Prop} {own : String} {h0 sz : Nat} (hy : plainName y.cls = true) (hws : ws = .code y cc maxL none :: ws') (ho : y.cls = own) (hname : y.name = "<init>") (hlen : 1 ≤ maxL) (hM0 : 0 < M.length)
    (body : ∀ (p : Program) (e : Env) (s : State) (m : MethodId) (args : Array Value) (below : List Frame) (meth : Method) (c : Code) (R : Room) (QQ : State → Prop) (A : Nat → Prop), CallFix p m c cc maxL s args ws own → meth.name = "<init>" → (f ≤ R.frames ∧ w ≤ R.locals) ∧ (mc ≤ R.cells ∧ ms ≤ R.slots) → (∀ q, s.heap.size ≤ q → A q) → (∀ q, A q → q = h0 ∨ s.heap.size ≤ q) → Z s → (∀ (ad : Nat → Nat) (u : St) (H : Heap) (locs : List Loc) (ls : Array Slot) (pc : Nat), ad 0 = h0 → P u → Wy cl G M ad A s H locs u → decode cc pc = .ok (.return_, 1) → W p l e R s m args below meth c H locs mc ms QQ (F0 m pc ls [])) → ∀ (ad : Nat → Nat) (ls : Array Slot), ad 0 = h0 → lv_has ls maxL [(0, .ref (ad 0))] → Wy cl G [c0] ad A s s.heap [] (fun _ _ => 0) →
      W p l e R s m args below meth c s.heap [] 0 0 QQ (F0 m 0 ls [])) : Met l y ws (rmc f w mc ms) (Kp cl G c0 Z h0 sz) (Kq cl G M P h0 sz) mc ms (Af h0 sz) := by
  refine Met.ofW (cc := cc) (maxL := maxL) (ret := none) hy hws ?_
  intro p e s m args below meth c s₁ B hml hv
  obtain ⟨rfl, hsz, ⟨hP, hK⟩, hZ⟩ := hv
  have hl := lv_entry [Value.ref h0] (n := maxL) hlen
  rw [lg_entry_eq]
  have hname' : meth.name = "<init>" := by rw [(name_of_methodNamed B.named B.method).1, hname]
  subst hsz
  have hr := B.returns
  have hlocks := B.notSynchronized
  have X : CallFix p m c cc maxL s [Value.ref h0].toArray ws own := ⟨B.exec, B.bytes, hml, by rw [← ho]; exact findClass_of_methodNamed B.named, atoms_spec (ws := ws) B.pre⟩
  refine body p e s m _ below meth c _ _ (Af h0 s.heap.size) X hname' ⟨⟨Nat.le_refl _, Nat.le_refl _⟩, ⟨Nat.le_refl _, Nat.le_refl _⟩⟩ (fun q h => Or.inr h) (fun q h => h) hZ ?_ (fun _ => h0) _ rfl hl ⟨hK, ⟨fun i j hi hj _ => by simp at hi hj; omega, fun q hq => by obtain ⟨k, _, rfl⟩ := hq; exact Or.inl rfl⟩, hP, va_S.rf⟩
  intro ad u H locs ls pc e0 hp hw d
  refine W.vret X.1 X.2.1 hr (fun t ht hW => ⟨⟨(ad, u), rfl, ⟨⟨e0, hw.2.1.1, fun k hk hk2 => ?_⟩, hp⟩, by rw [ht]; exact hw.2.2.1, va_K.moved hW.alike hw.1⟩, hw.2.2.2.F ht⟩) hw.2.2.2.2.2 d
  rcases hw.2.1.2 (ad k) ⟨k, hk2, rfl⟩ with z | z
  · have := hw.2.1.1 k 0 hk2 hM0 (by rw [z, e0])
    omega
  · exact z
section XCT
variable {p : Program} {l : Launch} {e : Env} {R : Room} {s : State} {m : MethodId} {args : Array Value} {below : List Frame} {meth : Method} {c : Code} {H : Heap} {locs : List Loc} {cells slots : Nat} {Q : State → Prop}
variable {cc : ByteArray} {nL : Nat} {Ts : List Cond} {own : String} {pc : Nat} {ls : Array Slot} {rest : List Value} {cl : List vw_C} {G : GT} {L : List LC} {ad : Nat → Nat} {A : Nat → Prop} {σ : St}
theorem x_obj (X : CallFix p m c cc nL s args Ts own) {index : Nat} (hl : ls.size = nL) (w1 : Cond.methodLink own index objectInit ∈ Ts) (w2 : Cond.instanceMethod objectInit ∈ Ts) (w3 : Cond.code objectInit ⟨#[0xb1]⟩ 1 none ∈ Ts) {q : Nat} (h1 : 1 ≤ R.frames) (h2 : (rest.map fun v => v.category).sum + 12 ≤ R.locals) (d : decode cc pc = .ok (.invokespecial index, 3)) (k : W p l e R s m args below meth c H locs cells slots Q (F0 m (pc + 3) ls rest)) : W p l e R s m args below meth c H locs cells slots Q (F0 m pc ls (.ref q :: rest)) :=
  W.objInit X.1 X.2.1 X.2.2.2.1 (X.2.2.2.2 _ w1) (X.2.2.2.2 _ w2) (X.2.2.2.2 _ w3) rfl (by rw [X.2.2.1]; exact hl) rfl d h1 (by show 2 * 0 + _ + 12 ≤ _; omega) k
theorem cE_nul {G : GT} {ad ad' : Nat → Nat} {ci : Nat} {fs : List (Nat ⊕ Bool)} (h : fs.all (fLow 1) = true) (f : Int → Int) : cE G ad (.inr (.inr (ci, fs))) f = cE G ad' (.inr (.inr (ci, fs))) f := by
  show Sum.inr (ci, fs.mapIdx (fun (j : Nat) q => fV ad q (f j))) = Sum.inr (ci, fs.mapIdx (fun (j : Nat) q => fV ad' q (f j)))
  congr 2
  apply List.ext_getElem?
  intro j
  rw [List.getElem?_mapIdx, List.getElem?_mapIdx]
  cases hj : fs[j]? with
  | none => rfl
  | some q =>
    have := List.all_eq_true.mp h q (List.mem_of_getElem? hj)
    match q, this with
    | .inl 0, _ => rfl
    | .inl (k + 1), h => simp [fLow] at h
    | .inr false, _ => rfl
    | .inr true, _ => rfl
theorem x_ctor {M : List LC} {ci : Nat} {fs : List (Nat ⊕ Bool)} {P : St → Prop} {Z : State → Prop} {y : MethodName} {bytes : ByteArray} {maxL index mc ms : Nat} {ws : List Cond} {rm : Room} (X : CallFix p m c cc nL s args Ts own) (n : Nat) (hn : L.length = n) (hw : Wy cl G (L ++ [.inr (.inr (ci, fs))]) ad A s H locs σ) (hA : ∀ q, s.heap.size ≤ q → A q) (hlow : allLow L = true) (hc0 : fs.all (fLow 1) = true) (hσ : σ n = fun _ => 0) (hM : ∀ sz, Met l y ws rm (Kp cl G (.inr (.inr (ci, fs))) Z (ad n) sz) (Kq cl G M P (ad n) sz) mc ms (Af (ad n) sz)) (cw : CallB R s args own index y bytes maxL none ws rm mc ms 0 ∧ y.name = "<init>" ∧ (Cond.instanceMethod y).before args s = true) (hZb : Zb Z) (hZ : ∀ U : State, U.heap = H → s.WarmedH U.vm → Z U) (hl : ls.size = nL) (hr : (rest.map fun v => v.category).sum ≤ 8) (d : decode cc pc = .ok (.invokespecial index, 3)) (hf : cells + mc ≤ R.cells ∧ slots + ms ≤ R.slots)
    (kk : ∀ (ad' : Nat → Nat) (σ' : St) (H1 : Heap) (locs1 : List Loc), (∀ k, k < n → ad' k = ad k) → ad' n = ad n → (∀ k, k < n → σ' k = σ k) → P (fun k => σ' (n + k)) → Wy cl G (L ++ M.map (shC n)) ad' A s H1 locs1 σ' → W p l e R s m args below meth c H1 locs1 (cells + mc) (slots + ms) Q (F0 m (pc + 3) ls rest)) : W p l e R s m args below meth c H locs cells slots Q (F0 m pc ls (.ref (ad n) :: rest)) := by
  subst hn
  obtain ⟨hK, ⟨hI, hAx⟩, hP, hS⟩ := hw
  have hlen : (L ++ [(.inr (.inr (ci, fs)) : LC)]).length = L.length + 1 := by simp
  have e1 : wd G (L ++ [.inr (.inr (ci, fs))]) ad σ = wd G L ad σ ++ [(ad L.length, cE G ad (.inr (.inr (ci, fs))) (σ L.length))] := wd_push hlow (fun _ _ => rfl) (fun _ _ => rfl)
  have hget : (wd G (L ++ [.inr (.inr (ci, fs))]) ad σ)[L.length]? = some (ad L.length, cE G ad (.inr (.inr (ci, fs))) (σ L.length)) := wd_get (by rw [List.getElem?_append_right (Nat.le_refl _)]; simp)
  have hPc : va_P G.2 cl (wd G [.inr (.inr (ci, fs))] (fun _ => ad L.length) (fun _ _ => 0)) H := by
    have e2 : wd G [.inr (.inr (ci, fs))] (fun _ => ad L.length) (fun _ _ => 0) = [(ad L.length, cE G ad (.inr (.inr (ci, fs))) (σ L.length))] := by
      show [(ad L.length, cE G (fun _ => ad L.length) (.inr (.inr (ci, fs))) (fun _ => 0))] = _
      rw [hσ, cE_nul hc0]
    intro k q hq
    rw [e2] at hq
    have : k = 0 := by
      have := (List.getElem?_eq_some_iff.mp hq).1
      simp at this
      exact this
    subst this
    cases hq
    exact hP _ _ hget
  have hlt : ∀ k, k < L.length + 1 → ad k < H.size := fun k hk => by
    have hk' : k < (L ++ [(.inr (.inr (ci, fs)) : LC)]).length := by omega
    exact (hP k _ (wd_get (List.getElem?_eq_getElem hk'))).lt
  have hA1 : ∀ q, Af (ad L.length) H.size q → A q := fun q h => by
    rcases h with h | h
    · exact hAx q ⟨L.length, by omega, h⟩
    · exact hA q (Nat.le_trans hS.1 h)
  refine va_callv (va_runI (As := []) (rest := rest) X (hM H.size) cw ⟨Kp_blind hZb, fun U hU hW => ⟨rfl, by rw [hU], ⟨by rw [hU]; exact hPc, va_K.moved hW.alike hK⟩, hZ U hU hW⟩⟩ rfl rfl hl rfl (lv_room hr) d hf) hS (fun q _ h => hA1 q h) hA1 (fun u t H1 locs1 ht hvm hp hB hz hk hS' => ?_)
  obtain ⟨adC, σC⟩ := u
  obtain ⟨⟨c1, c2, c3⟩, hp⟩ := hp
  have c1 : adC 0 = ad L.length := c1
  have c2 : Inj M adC := c2
  have c3 : ∀ k, 0 < k → k < M.length → H.size ≤ adC k := c3
  obtain ⟨adX, hadX⟩ : ∃ f : Nat → Nat, f = fun k => if k < L.length then ad k else adC (k - L.length) := ⟨_, rfl⟩
  obtain ⟨σX, hσX⟩ : ∃ f : St, f = fun k => if k < L.length then σ k else σC (k - L.length) := ⟨_, rfl⟩
  have a1 : ∀ k, k < L.length → adX k = ad k := fun k hk => by rw [hadX]; exact if_pos hk
  have a2 : ∀ k, adX (L.length + k) = adC k := fun k => by
    rw [hadX]
    show (if L.length + k < L.length then _ else adC (L.length + k - L.length)) = _
    rw [if_neg (by omega), Nat.add_sub_cancel_left]
  have b1 : ∀ k, k < L.length → σX k = σ k := fun k hk => by rw [hσX]; exact if_pos hk
  have b2 : ∀ k, σX (L.length + k) = σC k := fun k => by
    rw [hσX]
    show (if L.length + k < L.length then _ else σC (L.length + k - L.length)) = _
    rw [if_neg (by omega), Nat.add_sub_cancel_left]
  have ew := wd_sh (G := G) (M := M) hlow a1 b1 a2 b2
  refine kk adX σX H1 locs1 a1 (by have := a2 0; rw [Nat.add_zero] at this; rw [this, c1]) b1 (by have : (fun k => σX (L.length + k)) = σC := funext b2; rw [this]; exact hp) ⟨hK, ⟨fun i j hi hj he => ?_, fun q hq => ?_⟩, ?_, hS'⟩
  · rw [List.length_append, List.length_map] at hi hj
    have cross : ∀ i k, i < L.length → k < M.length → adX i = adX (L.length + k) → False := fun i k hi hk he => by
      rw [a1 i hi, a2] at he
      by_cases c : k = 0
      · subst c
        rw [c1] at he
        have := hI i L.length (by omega) (by omega) he
        omega
      · have := c3 k (by omega) hk
        have := hlt i (by omega)
        omega
    by_cases ci : i < L.length <;> by_cases cj : j < L.length
    · rw [a1 i ci, a1 j cj] at he
      exact hI i j (by omega) (by omega) he
    · exact (cross i (j - L.length) ci (by omega) (by rw [show L.length + (j - L.length) = j by omega]; exact he)).elim
    · exact (cross j (i - L.length) cj (by omega) (by rw [show L.length + (i - L.length) = i by omega]; exact he.symm)).elim
    · have h1 := a2 (i - L.length)
      have h2 := a2 (j - L.length)
      rw [show L.length + (i - L.length) = i by omega] at h1
      rw [show L.length + (j - L.length) = j by omega] at h2
      have := c2 (i - L.length) (j - L.length) (by omega) (by omega) (by rw [← h1, ← h2]; exact he)
      omega
  · obtain ⟨k, hk, rfl⟩ := hq
    rw [List.length_append, List.length_map] at hk
    by_cases ck : k < L.length
    · rw [a1 k ck]
      exact hAx _ ⟨k, by omega, rfl⟩
    · have h1 := a2 (k - L.length)
      rw [show L.length + (k - L.length) = k by omega] at h1
      rw [h1]
      by_cases c : k - L.length = 0
      · rw [c, c1]
        exact hAx _ ⟨L.length, by omega, rfl⟩
      · exact hA _ (Nat.le_trans hS.1 (c3 _ (by omega) (by omega)))
  · rw [ew]
    refine va_P.app (fun k q hq => ?_) (ht ▸ hB.1)
    have hkl : k < L.length := by
      have := (List.getElem?_eq_some_iff.mp hq).1
      unfold wd at this
      rw [List.length_mapIdx] at this
      exact this
    have hq1 : q.1 = ad k := by
      unfold wd at hq
      rw [List.getElem?_mapIdx, List.getElem?_eq_getElem hkl] at hq
      cases hq
      rfl
    have hq2 : (wd G (L ++ [.inr (.inr (ci, fs))]) ad σ)[k]? = some q := by
      rw [e1, List.getElem?_append_left (by unfold wd; rw [List.length_mapIdx]; exact hkl)]
      exact hq
    refine (hP k q hq2).kept (hk q.1 (by rw [hq1]; exact hlt k (by omega)) (fun z => ?_))
    rw [hq1] at z
    rcases z with z | z
    · have := hI k L.length (by omega) (by omega) z
      omega
    · have := hlt k (by omega)
      omega
end XCT
