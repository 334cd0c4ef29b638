section XCN
variable {p : Program} {l : Launch} {e : Env} {R : Room} {s : State} {m : MethodId} {args : Array Value} {below : List Frame} {meth : Method} {c : Code} {H : Heap} {locs : List Loc} {cells slots : Nat} {Q : State → Prop}
variable {cc : ByteArray} {nL : Nat} {Ts : List Cond} {own : String} {pc : Nat} {ls : Array Slot} {rest : List Value} {cl : List vw_C} {G : GT} {L : List LC} {ad : Nat → Nat} {A : Nat → Prop} {σ : St}
theorem x_ctorN {host : String} {M : List LC} {ci : Nat} {fs : List (Nat ⊕ Bool)} {P : St → Prop} {Z : State → Prop} {y : MethodName} {bytes : ByteArray} {maxL index mc ms : Nat} {ws : List Cond} {rm : Room} (X : CallFix p m c cc nL s args Ts own) (n : Nat) (hn : L.length = n) (hw : Wy cl G (L ++ [.inr (.inr (ci, fs))]) ad A s H locs σ) (hA : ∀ q, s.heap.size ≤ q → A q) (hlow : allLow L = true) (hc0 : fs.all (fLow 1) = true) (hσ : σ n = fun _ => 0) (hM : ∀ sz, Met l y ws rm (Kp cl G (.inr (.inr (ci, fs))) Z (ad n) sz) (Kq cl G M P (ad n) sz) mc ms (Af (ad n) sz)) (cw : va_CN R s args own index y host bytes maxL none ws rm mc ms 0 ∧ y.name = "<init>" ∧ (Cond.instanceMethod y).before args s = true) (hZb : Zb Z) (hZ : ∀ U : State, U.heap = H → s.WarmedH U.vm → Z U) (hl : ls.size = nL) (hr : (rest.map fun v => v.category).sum ≤ 8) (d : decode cc pc = .ok (.invokespecial index, 3)) (hf : cells + mc ≤ R.cells ∧ slots + ms ≤ R.slots)
    (kk : ∀ (ad' : Nat → Nat) (σ' : St) (H1 : Heap) (locs1 : List Loc), (∀ k, k < n → ad' k = ad k) → ad' n = ad n → (∀ k, k < n → σ' k = σ k) → P (fun k => σ' (n + k)) → Wy cl G (L ++ M.map (shC n)) ad' A s H1 locs1 σ' → W p l e R s m args below meth c H1 locs1 (cells + mc) (slots + ms) Q (F0 m (pc + 3) ls rest)) : W p l e R s m args below meth c H locs cells slots Q (F0 m pc ls (.ref (ad n) :: rest)) := by
  subst hn
  obtain ⟨hK, ⟨hI, hAx⟩, hP, hS⟩ := hw
  have hlen : (L ++ [(.inr (.inr (ci, fs)) : LC)]).length = L.length + 1 := by simp
  have e1 : wd G (L ++ [.inr (.inr (ci, fs))]) ad σ = wd G L ad σ ++ [(ad L.length, cE G ad (.inr (.inr (ci, fs))) (σ L.length))] := wd_push hlow (fun _ _ => rfl) (fun _ _ => rfl)
  have hget : (wd G (L ++ [.inr (.inr (ci, fs))]) ad σ)[L.length]? = some (ad L.length, cE G ad (.inr (.inr (ci, fs))) (σ L.length)) := wd_get (by rw [List.getElem?_append_right (Nat.le_refl _)]; simp)
  have hPc : va_P G.2 cl (wd G [.inr (.inr (ci, fs))] (fun _ => ad L.length) (fun _ _ => 0)) H := by
    have e2 : wd G [.inr (.inr (ci, fs))] (fun _ => ad L.length) (fun _ _ => 0) = [(ad L.length, cE G ad (.inr (.inr (ci, fs))) (σ L.length))] := by
      show [(ad L.length, cE G (fun _ => ad L.length) (.inr (.inr (ci, fs))) (fun _ => 0))] = _
      rw [hσ, cE_nul hc0]
    intro k q hq
    rw [e2] at hq
    have : k = 0 := by
      have := (List.getElem?_eq_some_iff.mp hq).1
      simp at this
      exact this
    subst this
    cases hq
    exact hP _ _ hget
  have hlt : ∀ k, k < L.length + 1 → ad k < H.size := fun k hk => by
    have hk' : k < (L ++ [(.inr (.inr (ci, fs)) : LC)]).length := by omega
    exact (hP k _ (wd_get (List.getElem?_eq_getElem hk'))).lt
  have hA1 : ∀ q, Af (ad L.length) H.size q → A q := fun q h => by
    rcases h with h | h
    · exact hAx q ⟨L.length, by omega, h⟩
    · exact hA q (Nat.le_trans hS.1 h)
  refine va_callv (va_runIN (As := []) (rest := rest) X (hM H.size) cw ⟨Kp_blind hZb, fun U hU hW => ⟨rfl, by rw [hU], ⟨by rw [hU]; exact hPc, va_K.moved hW.alike hK⟩, hZ U hU hW⟩⟩ rfl rfl hl rfl (lv_room hr) d hf) hS (fun q _ h => hA1 q h) hA1 (fun u t H1 locs1 ht hvm hp hB hz hk hS' => ?_)
  obtain ⟨adC, σC⟩ := u
  obtain ⟨⟨c1, c2, c3⟩, hp⟩ := hp
  have c1 : adC 0 = ad L.length := c1
  have c2 : Inj M adC := c2
  have c3 : ∀ k, 0 < k → k < M.length → H.size ≤ adC k := c3
  obtain ⟨adX, hadX⟩ : ∃ f : Nat → Nat, f = fun k => if k < L.length then ad k else adC (k - L.length) := ⟨_, rfl⟩
  obtain ⟨σX, hσX⟩ : ∃ f : St, f = fun k => if k < L.length then σ k else σC (k - L.length) := ⟨_, rfl⟩
  have a1 : ∀ k, k < L.length → adX k = ad k := fun k hk => by rw [hadX]; exact if_pos hk
  have a2 : ∀ k, adX (L.length + k) = adC k := fun k => by
    rw [hadX]
    show (if L.length + k < L.length then _ else adC (L.length + k - L.length)) = _
    rw [if_neg (by omega), Nat.add_sub_cancel_left]
  have b1 : ∀ k, k < L.length → σX k = σ k := fun k hk => by rw [hσX]; exact if_pos hk
  have b2 : ∀ k, σX (L.length + k) = σC k := fun k => by
    rw [hσX]
    show (if L.length + k < L.length then _ else σC (L.length + k - L.length)) = _
    rw [if_neg (by omega), Nat.add_sub_cancel_left]
  have ew := wd_sh (G := G) (M := M) hlow a1 b1 a2 b2
  refine kk adX σX H1 locs1 a1 (by have := a2 0; rw [Nat.add_zero] at this; rw [this, c1]) b1 (by have : (fun k => σX (L.length + k)) = σC := funext b2; rw [this]; exact hp) ⟨hK, ⟨fun i j hi hj he => ?_, fun q hq => ?_⟩, ?_, hS'⟩
  · rw [List.length_append, List.length_map] at hi hj
    have cross : ∀ i k, i < L.length → k < M.length → adX i = adX (L.length + k) → False := fun i k hi hk he => by
      rw [a1 i hi, a2] at he
      by_cases c : k = 0
      · subst c
        rw [c1] at he
        have := hI i L.length (by omega) (by omega) he
        omega
      · have := c3 k (by omega) hk
        have := hlt i (by omega)
        omega
    by_cases ci : i < L.length <;> by_cases cj : j < L.length
    · rw [a1 i ci, a1 j cj] at he
      exact hI i j (by omega) (by omega) he
    · exact (cross i (j - L.length) ci (by omega) (by rw [show L.length + (j - L.length) = j by omega]; exact he)).elim
    · exact (cross j (i - L.length) cj (by omega) (by rw [show L.length + (i - L.length) = i by omega]; exact he.symm)).elim
    · have h1 := a2 (i - L.length)
      have h2 := a2 (j - L.length)
      rw [show L.length + (i - L.length) = i by omega] at h1
      rw [show L.length + (j - L.length) = j by omega] at h2
      have := c2 (i - L.length) (j - L.length) (by omega) (by omega) (by rw [← h1, ← h2]; exact he)
      omega
  · obtain ⟨k, hk, rfl⟩ := hq
    rw [List.length_append, List.length_map] at hk
    by_cases ck : k < L.length
    · rw [a1 k ck]
      exact hAx _ ⟨k, by omega, rfl⟩
    · have h1 := a2 (k - L.length)
      rw [show L.length + (k - L.length) = k by omega] at h1
      rw [h1]
      by_cases c : k - L.length = 0
      · rw [c, c1]
        exact hAx _ ⟨L.length, by omega, rfl⟩
      · exact hA _ (Nat.le_trans hS.1 (c3 _ (by omega) (by omega)))
  · rw [ew]
    refine va_P.app (fun k q hq => ?_) (ht ▸ hB.1)
    have hkl : k < L.length := by
      have := (List.getElem?_eq_some_iff.mp hq).1
      unfold wd at this
      rw [List.length_mapIdx] at this
      exact this
    have hq1 : q.1 = ad k := by
      unfold wd at hq
      rw [List.getElem?_mapIdx, List.getElem?_eq_getElem hkl] at hq
      cases hq
      rfl
    have hq2 : (wd G (L ++ [.inr (.inr (ci, fs))]) ad σ)[k]? = some q := by
      rw [e1, List.getElem?_append_left (by unfold wd; rw [List.length_mapIdx]; exact hkl)]
      exact hq
    refine (hP k q hq2).kept (hk q.1 (by rw [hq1]; exact hlt k (by omega)) (fun z => ?_))
    rw [hq1] at z
    rcases z with z | z
    · have := hI k L.length (by omega) (by omega) z
      omega
    · have := hlt k (by omega)
      omega
end XCN
-- THE CLASS's constructor
section XQ
variable {p : Program} {l : Launch} {e : Env} {R : Room} {s : State} {m : MethodId} {args : Array Value} {below : List Frame} {meth : Method} {c : Code} {H : Heap} {locs : List Loc} {cells slots : Nat} {Q : State → Prop}
variable {cc : ByteArray} {nL : Nat} {Ts : List Cond} {own : String} {pc : Nat} {ls : Array Slot} {rest : List Value} {cl : List vw_C} {G : GT} {L : List LC} {ad : Nat → Nat} {A : Nat → Prop} {σ : St}
theorem x_newq (X : CallFix p m c cc nL s args Ts own) (hw : Wy cl G L ad A s H locs σ) (hA : ∀ q, s.heap.size ≤ q → A q) (hlow : allLow L = true) {index : Nat} (hcl : Cond.classLink own index "LacePillow$Sheet" ∈ Ts) (hover : va_AO "LacePillow$Sheet" s) {a : Int} (n : Nat) (hn : i32 a = n) (hb : Nat.ble n 20000 = true) (hc : cells + 1 ≤ R.cells) (hsl : slots + n ≤ R.slots) (d : decode cc pc = .ok (.anewarray index, 3))
    (kk : ∀ (ad' : Nat → Nat) (H1 : Heap), (∀ k, k < L.length → ad' k = ad k) → Wy cl G (L ++ [.inr (.inl (n, []))]) ad' A s H1 locs (sf σ L.length (fun _ => 0)) → W p l e R s m args below meth c H1 locs (cells + 1) (slots + n) Q (F0 m (pc + 3) ls (.ref (ad' L.length) :: rest))) : W p l e R s m args below meth c H locs cells slots Q (F0 m pc ls (iV a :: rest)) := by
  have hb' := Nat.le_of_ble_eq_true hb
  refine va_newq (D := G.2) (cl := cl) X.1 X.2.1 X.2.2.2.1 (X.2.2.2.2 _ hcl) hover hw.1 hw.2.2.1 (wd_D σ hw.2.1.1 hw.2.1.2) hw.2.2.2 hA (fun z => by have := x_lt0.mp z; omega) (by show (Int32.ofInt a).toInt.toNat = n; have : (Int32.ofInt a).toInt = (n : Int) := hn; rw [this]; rfl) (by omega) hc hsl d (fun q cA H1 hK hP hD hS => ?_)
  have hcA : cA = G.1.2.2 := by
    obtain ⟨k1, c1, -, -, -, h1⟩ := (hK.2 3 (cA, .object "LacePillow$Sheet") rfl).2
    obtain ⟨k2, c2, -, -, -, h2⟩ := (hw.1.2 2 (G.1.2.2, .object "LacePillow$Sheet") rfl).2
    exact Option.some.inj (h1.symm.trans h2)
  subst hcA
  obtain ⟨ad', e1, e2⟩ := adN (L := L) ad q
  have es : ∀ k, k < L.length → sf σ L.length (fun _ => 0) k = σ k := fun k hk => sf_row _ (by omega) _
  have ew : wd G (L ++ [.inr (.inl (n, []))]) ad' (sf σ L.length (fun _ => 0)) = wd G L ad σ ++ [(q, .inl (G.1.2.2, n, .inr (.inr (.inr (.inr (fun _ => none))))))] := by
    rw [wd_push hlow e2 es, e1, sf_at]
    rfl
  have := kk ad' H1 e2 ⟨hw.1, wd_D' (G := G) (σ := sf σ L.length (fun _ => 0)) (by rw [ew]; exact hD), by rw [ew]; exact hP, hS⟩
  rw [e1] at this
  exact this
theorem up_app (ad : Nat → Nat) (ks : List Nat) (k : Nat) : va_up (fun j : Nat => (ks[j]?).map ad) ks.length (some (ad k)) = fun j : Nat => ((ks ++ [k])[j]?).map ad := by
  funext j
  unfold va_up
  by_cases c : j = ks.length
  · subst c
    rw [if_pos rfl, List.getElem?_append_right (Nat.le_refl _)]
    simp
  · rw [if_neg c]
    by_cases h : j < ks.length
    · rw [List.getElem?_append_left h]
    · have h1 : (ks ++ [k])[j]? = none := List.getElem?_eq_none (by rw [List.length_append, List.length_singleton]; omega)
      have h2 : ks[j]? = none := List.getElem?_eq_none (by omega)
      show (ks[j]?).map ad = ((ks ++ [k])[j]?).map ad
      rw [h1, h2]
theorem x_aast (X : CallFix p m c cc nL s args Ts own) (hw : Wy cl G L ad A s H locs σ) (k0 ko : Nat) {n ci N : Nat} {T : u_T} (ks : List Nat) {fs : List (Nat ⊕ Bool)} (hL : L[k0]? = some (.inr (.inl (n, ks)))) (hO : L[ko]? = some (.inr (.inr (ci, fs)))) (hc : cl[ci]? = some ("LacePillow$Sheet", T, N)) {i : Int} (hi : i32 i = ks.length) (hn : ks.length < n) (d : decode cc pc = .ok (.aastore, 1))
    (kk : ∀ (H1 : Heap) (locs1 : List Loc), Wy cl G (L.set k0 (.inr (.inl (n, ks ++ [ko])))) ad A s H1 locs1 σ → W p l e R s m args below meth c H1 locs1 cells slots Q (F0 m (pc + 1) ls rest)) : W p l e R s m args below meth c H locs cells slots Q (F0 m pc ls (.ref (ad ko) :: iV i :: .ref (ad k0) :: rest)) := by
  have hcl : (Int32.ofInt i).toNatClampNeg = ks.length := by
    show (Int32.ofInt i).toInt.toNat = _
    have : (Int32.ofInt i).toInt = (ks.length : Int) := hi
    rw [this]
    rfl
  refine va_astq (D := G.2) (cl := cl) X.1 X.2.1 hw.1 hw.2.2.1 (wd_D σ hw.2.1.1 hw.2.1.2) hw.2.2.2 k0 2 ko ci (r := ("LacePillow$Sheet", T, N)) (wd_get hL) rfl (wd_get hO) hc (x_in (by rw [hi]; omega)) d (fun H1 locs1 hP hD hS => ?_)
  rw [hcl, up_app] at hP hD
  have e : (ad k0, (Sum.inl (G.1.2.2, n, Sum.inr (Sum.inr (Sum.inr (Sum.inr (fun j : Nat => ((ks ++ [ko])[j]?).map ad))))) : va_E)) = (ad k0, cE G ad (.inr (.inl (n, ks ++ [ko]))) (σ k0)) := rfl
  rw [e, wd_setL hL] at hP hD
  exact kk H1 locs1 ⟨hw.1, wd_D' hD, hP, hS⟩
end XQ
def stp (n : Nat) (σ σ' : St) : Prop := ∀ c, c ≠ 0 → c < n → σ' c = σ c
theorem Wy.eqL {cl : List vw_C} {G : GT} {L L' : List LC} {ad : Nat → Nat} {A : Nat → Prop} {s : State} {H : Heap} {locs : List Loc} {σ : St} (hw : Wy cl G L ad A s H locs σ) (h : L = L') : Wy cl G L' ad A s H locs σ := h ▸ hw
theorem stp.mo {n m : Nat} {a b : St} (h : stp n a b) (hm : m ≤ n) : stp m a b := fun k x y => h k x (by omega)
theorem stp.tr {n : Nat} {a b c : St} (h1 : stp n a b) (h2 : stp n b c) : stp n a c := fun k x y => (h2 k x y).trans (h1 k x y)
theorem stp.f {n k : Nat} {σ σ' : St} {f : Int → Int} (h : σ' = sf σ k f) (hk : n ≤ k) : stp n σ σ' := fun c x y => by rw [h, sf_row _ (by omega)]
theorem stp.s {n : Nat} {σ σ' : St} {j v : Int} (h : σ' = ss σ 0 j v) : stp n σ σ' := fun c x y => by rw [h, ss_row _ x]
theorem stp.c {n k : Nat} {σ σ' : St} (h : ∀ c, c < k → σ' c = σ c) (hk : n ≤ k) : stp n σ σ' := fun c x y => h c (by omega)
theorem PX0.cg {u v : St} (h : PX0 u) (e : ∀ k, k < 7 → v k = u k) : PX0 v := by unfold PX0; rw [e 0 (by decide)]; exact h
theorem PX1.cg {u v : St} (h : PX1 u) (e : ∀ k, k < 3 → v k = u k) : PX1 v := by unfold PX1; rw [e 0 (by decide), e 1 (by decide), e 2 (by decide)]; exact h
theorem PX2.cg {u v : St} (h : PX2 u) (e : ∀ k, k < 6 → v k = u k) : PX2 v := by unfold PX2; rw [e 0 (by decide), e 1 (by decide), e 2 (by decide), e 3 (by decide), e 4 (by decide), e 5 (by decide)]; exact h
theorem PX3.cg {u v : St} (h : PX3 u) (e : ∀ k, k < 2 → v k = u k) : PX3 v := by unfold PX3; rw [e 0 (by decide)]; exact h
theorem PX4.cg {u v : St} (h : PX4 u) (e : ∀ k, k < 2 → v k = u k) : PX4 v := by unfold PX4; rw [e 0 (by decide)]; exact h
theorem PX5.cg {u v : St} (h : PX5 u) (e : ∀ k, k < 6 → v k = u k) : PX5 v := by unfold PX5; rw [e 0 (by decide)]; exact h
theorem PX6.cg {u v : St} (h : PX6 u) (e : ∀ k, k < 12 → v k = u k) : PX6 v := by
  obtain ⟨a1, a2, a3, a4, a5, a6, a7, a8, a9⟩ := h
  unfold PX6
  rw [e 0 (by decide), e 1 (by decide), e 2 (by decide), e 3 (by decide), e 4 (by decide), e 5 (by decide), e 6 (by decide), e 7 (by decide), e 8 (by decide)]
  exact ⟨a1, a2, a3, a4, a5, a6, a7, a8, a9.cg (fun k hk => e (9 + k) (by omega))⟩
def ZX7 (aK aV : Nat → Nat) (fq B0 : Nat) (U : State) : Prop := (SX aK aV fq B0 RX2 54 U ∧ va_AO RX3 U) ∧ va_Nw (.methodLinkNest RX7 32 yX0_init "LacePillow") U ∧ va_Nw (.methodLinkNest RX7 39 yX5_init "LacePillow") U ∧ va_Nw (.methodLinkNest RX7 64 yX4_init "LacePillow") U ∧ va_Nw (.methodLinkNest RX7 79 yX3_init "LacePillow") U
theorem ZX7.bl {aK aV : Nat → Nat} {fq B0 : Nat} : Zb (ZX7 aK aV fq B0) := fun a U g mk h => ⟨⟨SX.bl a U g mk h.1.1, va_AO.moved (u := U) (U := U.calling g mk a) (Vm.Alike.refl U.vm) h.1.2⟩, va_Nw.same rfl (u := U) rfl h.2.1, va_Nw.same rfl (u := U) rfl h.2.2.1, va_Nw.same rfl (u := U) rfl h.2.2.2.1, va_Nw.same rfl (u := U) rfl h.2.2.2.2⟩
theorem ZX7.to {aK aV : Nat → Nat} {fq B0 : Nat} {s U : State} {A : Nat → Prop} {H : Heap} {locs : List Loc} (h : ZX7 aK aV fq B0 s) (hA : ∀ q, A q → B0 ≤ q) (hS : va_S A s.heap H locs) (hU : U.heap = H) (hW : s.WarmedH U.vm) : ZX7 aK aV fq B0 U :=
  ⟨⟨h.1.1.to hA hS hU hW, va_AO.moved hW.alike h.1.2⟩, va_Nw.warmM hW h.2.1, va_Nw.warmM hW h.2.2.1, va_Nw.warmM hW h.2.2.2.1, va_Nw.warmM hW h.2.2.2.2⟩
theorem kX7_init_0 : Cond.methodLink RX7 3 objectInit ∈ wsX7_init := by decide +kernel
theorem kX7_init_1 : Cond.instanceMethod objectInit ∈ wsX7_init := by decide +kernel
theorem kX7_init_2 : Cond.code objectInit ⟨#[0xb1]⟩ 1 none ∈ wsX7_init := by decide +kernel
theorem kX7_init_3 : ∀ w ∈ wsX20, w ∈ wsX7_init := by decide +kernel
theorem kX7_init_4 : Cond.classLink RX7 9 RX2 ∈ wsX7_init := by decide +kernel
theorem kX7_init_5 : Cond.instantiable RX2 7 ∈ wsX7_init := by decide +kernel
theorem kX7_init_6 : Cond.initialized RX2 ∈ wsX7_init := by decide +kernel
theorem kX7_init_7 : Cond.methodLink RX7 11 yX2_init ∈ wsX7_init := by decide +kernel
theorem kX7_init_8 : Cond.instanceMethod yX2_init ∈ wsX7_init := by decide +kernel
theorem kX7_init_9 : ∀ w ∈ wsX70, w ∈ wsX7_init := by decide +kernel
theorem kX7_init_10 : Cond.fieldLink RX7 12 "LacePillow" "plan" "LLacePillow$Plan;" ∈ wsX7_init := by decide +kernel
theorem kX7_init_11 : Cond.fieldLink RX7 16 "LacePillow" "kept" "LLacePillow$Plan;" ∈ wsX7_init := by decide +kernel
theorem kX7_init_12 : ∀ w ∈ wsX10, w ∈ wsX7_init := by decide +kernel
theorem kX7_init_13 : Cond.classLink RX7 19 RX1 ∈ wsX7_init := by decide +kernel
theorem kX7_init_14 : Cond.instantiable RX1 3 ∈ wsX7_init := by decide +kernel
theorem kX7_init_15 : Cond.initialized RX1 ∈ wsX7_init := by decide +kernel
theorem kX7_init_16 : Cond.methodLink RX7 21 yX1_init ∈ wsX7_init := by decide +kernel
theorem kX7_init_17 : Cond.instanceMethod yX1_init ∈ wsX7_init := by decide +kernel
theorem kX7_init_18 : Cond.fieldLink RX7 22 "LacePillow" "keptHeap" "LLacePillow$Heap;" ∈ wsX7_init := by decide +kernel
theorem kX7_init_19 : Cond.fieldLink RX7 26 "LacePillow" "imaged" "Z" ∈ wsX7_init := by decide +kernel
theorem kX7_init_20 : ∀ w ∈ wsX00, w ∈ wsX7_init := by decide +kernel
theorem kX7_init_21 : Cond.classLink RX7 30 RX0 ∈ wsX7_init := by decide +kernel
theorem kX7_init_22 : Cond.instantiable RX0 8 ∈ wsX7_init := by decide +kernel
theorem kX7_init_23 : Cond.initialized RX0 ∈ wsX7_init := by decide +kernel
theorem kX7_init_24 : Cond.instanceMethod yX0_init ∈ wsX7_init := by decide +kernel
theorem kX7_init_25 : Cond.fieldLink RX7 33 "LacePillow" "ground" "LLacePillow$Ground;" ∈ wsX7_init := by decide +kernel
theorem kX7_init_26 : ∀ w ∈ wsX50, w ∈ wsX7_init := by decide +kernel
theorem kX7_init_27 : Cond.classLink RX7 37 RX5 ∈ wsX7_init := by decide +kernel
theorem kX7_init_28 : Cond.instantiable RX5 6 ∈ wsX7_init := by decide +kernel
theorem kX7_init_29 : Cond.initialized RX5 ∈ wsX7_init := by decide +kernel
theorem kX7_init_30 : Cond.instanceMethod yX5_init ∈ wsX7_init := by decide +kernel
theorem kX7_init_31 : Cond.fieldLink RX7 40 "LacePillow" "ways" "LLacePillow$Ways;" ∈ wsX7_init := by decide +kernel
theorem kX7_init_32 : ∀ w ∈ wsX60, w ∈ wsX7_init := by decide +kernel
theorem kX7_init_33 : Cond.classLink RX7 44 RX6 ∈ wsX7_init := by decide +kernel
theorem kX7_init_34 : Cond.instantiable RX6 10 ∈ wsX7_init := by decide +kernel
theorem kX7_init_35 : Cond.initialized RX6 ∈ wsX7_init := by decide +kernel
theorem kX7_init_36 : Cond.methodLink RX7 46 yX6_init ∈ wsX7_init := by decide +kernel
theorem kX7_init_37 : Cond.instanceMethod yX6_init ∈ wsX7_init := by decide +kernel
theorem kX7_init_38 : Cond.fieldLink RX7 47 "LacePillow" "done" "LLacePillow$Weave;" ∈ wsX7_init := by decide +kernel
theorem kX7_init_39 : Cond.fieldLink RX7 51 "LacePillow" "thought" "LLacePillow$Weave;" ∈ wsX7_init := by decide +kernel
theorem kX7_init_40 : Cond.fieldLink RX7 54 "LacePillow" "thoughtStitches" "I" ∈ wsX7_init := by decide +kernel
theorem kX7_init_41 : Cond.fieldLink RX7 58 "LacePillow" "workedBits" "J" ∈ wsX7_init := by decide +kernel
theorem kX7_init_42 : ∀ w ∈ wsX40, w ∈ wsX7_init := by decide +kernel
theorem kX7_init_43 : Cond.classLink RX7 62 RX4 ∈ wsX7_init := by decide +kernel
theorem kX7_init_44 : Cond.instantiable RX4 2 ∈ wsX7_init := by decide +kernel
theorem kX7_init_45 : Cond.initialized RX4 ∈ wsX7_init := by decide +kernel
theorem kX7_init_46 : Cond.instanceMethod yX4_init ∈ wsX7_init := by decide +kernel
theorem kX7_init_47 : Cond.fieldLink RX7 65 "LacePillow" "tape" "LLacePillow$Tape;" ∈ wsX7_init := by decide +kernel
theorem kX7_init_48 : Cond.classLink RX7 69 RX3 ∈ wsX7_init := by decide +kernel
theorem kX7_init_49 : Cond.fieldLink RX7 71 "LacePillow" "sheets" "[LLacePillow$Sheet;" ∈ wsX7_init := by decide +kernel
theorem kX7_init_50 : Cond.arrayClass .int ∈ wsX7_init := by decide +kernel
theorem kX7_init_51 : Cond.fieldLink RX7 75 "LacePillow" "errors" "[I" ∈ wsX7_init := by decide +kernel
theorem kX7_init_52 : ∀ w ∈ wsX30, w ∈ wsX7_init := by decide +kernel
theorem kX7_init_53 : Cond.instantiable RX3 3 ∈ wsX7_init := by decide +kernel
theorem kX7_init_54 : Cond.initialized RX3 ∈ wsX7_init := by decide +kernel
theorem kX7_init_55 : Cond.instanceMethod yX3_init ∈ wsX7_init := by decide +kernel
def QL1 : List LC := [.inr (.inr (7, [.inl 0, .inl 0, .inl 0, .inr false, .inl 0, .inl 0, .inl 0, .inl 0, .inr false, .inr true, .inl 0, .inl 0, .inl 0]))]
theorem QL1_low : allLow QL1 = true := by decide +kernel
theorem QL1_len : QL1.length = 1 := by decide +kernel
theorem QL1_0 : QL1[0]? = some (.inr (.inr (7, [.inl 0, .inl 0, .inl 0, .inr false, .inl 0, .inl 0, .inl 0, .inl 0, .inr false, .inr true, .inl 0, .inl 0, .inl 0]))) := by decide +kernel
def QL2 : List LC := [.inr (.inr (7, [.inl 0, .inl 0, .inl 0, .inr false, .inl 0, .inl 0, .inl 0, .inl 0, .inr false, .inr true, .inl 0, .inl 0, .inl 0])), .inr (.inr (2, [.inr false, .inl 2, .inl 3, .inl 4, .inl 5, .inl 6, .inr false])), .inl (false, 84), .inl (false, 48), .inl (false, 6), .inl (false, 16), .inl (false, 48)]
theorem QL2_low : allLow QL2 = true := by decide +kernel
theorem QL2_len : QL2.length = 7 := by decide +kernel
theorem QL2_0 : QL2[0]? = some (.inr (.inr (7, [.inl 0, .inl 0, .inl 0, .inr false, .inl 0, .inl 0, .inl 0, .inl 0, .inr false, .inr true, .inl 0, .inl 0, .inl 0]))) := by decide +kernel
def QL3 : List LC := [.inr (.inr (7, [.inl 1, .inl 0, .inl 0, .inr false, .inl 0, .inl 0, .inl 0, .inl 0, .inr false, .inr true, .inl 0, .inl 0, .inl 0])), .inr (.inr (2, [.inr false, .inl 2, .inl 3, .inl 4, .inl 5, .inl 6, .inr false])), .inl (false, 84), .inl (false, 48), .inl (false, 6), .inl (false, 16), .inl (false, 48)]
theorem QL3_low : allLow QL3 = true := by decide +kernel
theorem QL3_len : QL3.length = 7 := by decide +kernel
theorem QL3_0 : QL3[0]? = some (.inr (.inr (7, [.inl 1, .inl 0, .inl 0, .inr false, .inl 0, .inl 0, .inl 0, .inl 0, .inr false, .inr true, .inl 0, .inl 0, .inl 0]))) := by decide +kernel
def QL4 : List LC := [.inr (.inr (7, [.inl 1, .inl 0, .inl 0, .inr false, .inl 0, .inl 0, .inl 0, .inl 0, .inr false, .inr true, .inl 0, .inl 0, .inl 0])), .inr (.inr (2, [.inr false, .inl 2, .inl 3, .inl 4, .inl 5, .inl 6, .inr false])), .inl (false, 84), .inl (false, 48), .inl (false, 6), .inl (false, 16), .inl (false, 48), .inr (.inr (2, [.inr false, .inl 8, .inl 9, .inl 10, .inl 11, .inl 12, .inr false])), .inl (false, 84), .inl (false, 48), .inl (false, 6), .inl (false, 16), .inl (false, 48)]
theorem QL4_low : allLow QL4 = true := by decide +kernel
theorem QL4_len : QL4.length = 13 := by decide +kernel
theorem QL4_0 : QL4[0]? = some (.inr (.inr (7, [.inl 1, .inl 0, .inl 0, .inr false, .inl 0, .inl 0, .inl 0, .inl 0, .inr false, .inr true, .inl 0, .inl 0, .inl 0]))) := by decide +kernel
def QL5 : List LC := [.inr (.inr (7, [.inl 1, .inl 7, .inl 0, .inr false, .inl 0, .inl 0, .inl 0, .inl 0, .inr false, .inr true, .inl 0, .inl 0, .inl 0])), .inr (.inr (2, [.inr false, .inl 2, .inl 3, .inl 4, .inl 5, .inl 6, .inr false])), .inl (false, 84), .inl (false, 48), .inl (false, 6), .inl (false, 16), .inl (false, 48), .inr (.inr (2, [.inr false, .inl 8, .inl 9, .inl 10, .inl 11, .inl 12, .inr false])), .inl (false, 84), .inl (false, 48), .inl (false, 6), .inl (false, 16), .inl (false, 48)]
theorem QL5_low : allLow QL5 = true := by decide +kernel
theorem QL5_len : QL5.length = 13 := by decide +kernel
theorem QL5_0 : QL5[0]? = some (.inr (.inr (7, [.inl 1, .inl 7, .inl 0, .inr false, .inl 0, .inl 0, .inl 0, .inl 0, .inr false, .inr true, .inl 0, .inl 0, .inl 0]))) := by decide +kernel
def QL6 : List LC := [.inr (.inr (7, [.inl 1, .inl 7, .inl 0, .inr false, .inl 0, .inl 0, .inl 0, .inl 0, .inr false, .inr true, .inl 0, .inl 0, .inl 0])), .inr (.inr (2, [.inr false, .inl 2, .inl 3, .inl 4, .inl 5, .inl 6, .inr false])), .inl (false, 84), .inl (false, 48), .inl (false, 6), .inl (false, 16), .inl (false, 48), .inr (.inr (2, [.inr false, .inl 8, .inl 9, .inl 10, .inl 11, .inl 12, .inr false])), .inl (false, 84), .inl (false, 48), .inl (false, 6), .inl (false, 16), .inl (false, 48), .inr (.inr (1, [.inr false, .inl 14, .inl 15])), .inl (false, 1440), .inl (false, 17)]
theorem QL6_low : allLow QL6 = true := by decide +kernel
theorem QL6_len : QL6.length = 16 := by decide +kernel
theorem QL6_0 : QL6[0]? = some (.inr (.inr (7, [.inl 1, .inl 7, .inl 0, .inr false, .inl 0, .inl 0, .inl 0, .inl 0, .inr false, .inr true, .inl 0, .inl 0, .inl 0]))) := by decide +kernel
def QL7 : List LC := [.inr (.inr (7, [.inl 1, .inl 7, .inl 13, .inr false, .inl 0, .inl 0, .inl 0, .inl 0, .inr false, .inr true, .inl 0, .inl 0, .inl 0])), .inr (.inr (2, [.inr false, .inl 2, .inl 3, .inl 4, .inl 5, .inl 6, .inr false])), .inl (false, 84), .inl (false, 48), .inl (false, 6), .inl (false, 16), .inl (false, 48), .inr (.inr (2, [.inr false, .inl 8, .inl 9, .inl 10, .inl 11, .inl 12, .inr false])), .inl (false, 84), .inl (false, 48), .inl (false, 6), .inl (false, 16), .inl (false, 48), .inr (.inr (1, [.inr false, .inl 14, .inl 15])), .inl (false, 1440), .inl (false, 17)]
theorem QL7_low : allLow QL7 = true := by decide +kernel
theorem QL7_len : QL7.length = 16 := by decide +kernel
theorem QL7_0 : QL7[0]? = some (.inr (.inr (7, [.inl 1, .inl 7, .inl 13, .inr false, .inl 0, .inl 0, .inl 0, .inl 0, .inr false, .inr true, .inl 0, .inl 0, .inl 0]))) := by decide +kernel
def QL8 : List LC := [.inr (.inr (7, [.inl 1, .inl 7, .inl 13, .inr false, .inl 0, .inl 0, .inl 0, .inl 0, .inr false, .inr true, .inl 0, .inl 0, .inl 0])), .inr (.inr (2, [.inr false, .inl 2, .inl 3, .inl 4, .inl 5, .inl 6, .inr false])), .inl (false, 84), .inl (false, 48), .inl (false, 6), .inl (false, 16), .inl (false, 48), .inr (.inr (2, [.inr false, .inl 8, .inl 9, .inl 10, .inl 11, .inl 12, .inr false])), .inl (false, 84), .inl (false, 48), .inl (false, 6), .inl (false, 16), .inl (false, 48), .inr (.inr (1, [.inr false, .inl 14, .inl 15])), .inl (false, 1440), .inl (false, 17), .inr (.inr (0, [.inr false, .inr false, .inl 17, .inl 18, .inl 19, .inl 20, .inl 21, .inl 22])), .inl (false, 48), .inl (false, 48), .inl (false, 48), .inl (false, 48), .inl (true, 48), .inl (false, 48)]
theorem QL8_low : allLow QL8 = true := by decide +kernel
theorem QL8_len : QL8.length = 23 := by decide +kernel
theorem QL8_0 : QL8[0]? = some (.inr (.inr (7, [.inl 1, .inl 7, .inl 13, .inr false, .inl 0, .inl 0, .inl 0, .inl 0, .inr false, .inr true, .inl 0, .inl 0, .inl 0]))) := by decide +kernel
def QL9 : List LC := [.inr (.inr (7, [.inl 1, .inl 7, .inl 13, .inr false, .inl 16, .inl 0, .inl 0, .inl 0, .inr false, .inr true, .inl 0, .inl 0, .inl 0])), .inr (.inr (2, [.inr false, .inl 2, .inl 3, .inl 4, .inl 5, .inl 6, .inr false])), .inl (false, 84), .inl (false, 48), .inl (false, 6), .inl (false, 16), .inl (false, 48), .inr (.inr (2, [.inr false, .inl 8, .inl 9, .inl 10, .inl 11, .inl 12, .inr false])), .inl (false, 84), .inl (false, 48), .inl (false, 6), .inl (false, 16), .inl (false, 48), .inr (.inr (1, [.inr false, .inl 14, .inl 15])), .inl (false, 1440), .inl (false, 17), .inr (.inr (0, [.inr false, .inr false, .inl 17, .inl 18, .inl 19, .inl 20, .inl 21, .inl 22])), .inl (false, 48), .inl (false, 48), .inl (false, 48), .inl (false, 48), .inl (true, 48), .inl (false, 48)]
theorem QL9_low : allLow QL9 = true := by decide +kernel
theorem QL9_len : QL9.length = 23 := by decide +kernel
theorem QL9_0 : QL9[0]? = some (.inr (.inr (7, [.inl 1, .inl 7, .inl 13, .inr false, .inl 16, .inl 0, .inl 0, .inl 0, .inr false, .inr true, .inl 0, .inl 0, .inl 0]))) := by decide +kernel
def QL10 : List LC := [.inr (.inr (7, [.inl 1, .inl 7, .inl 13, .inr false, .inl 16, .inl 0, .inl 0, .inl 0, .inr false, .inr true, .inl 0, .inl 0, .inl 0])), .inr (.inr (2, [.inr false, .inl 2, .inl 3, .inl 4, .inl 5, .inl 6, .inr false])), .inl (false, 84), .inl (false, 48), .inl (false, 6), .inl (false, 16), .inl (false, 48), .inr (.inr (2, [.inr false, .inl 8, .inl 9, .inl 10, .inl 11, .inl 12, .inr false])), .inl (false, 84), .inl (false, 48), .inl (false, 6), .inl (false, 16), .inl (false, 48), .inr (.inr (1, [.inr false, .inl 14, .inl 15])), .inl (false, 1440), .inl (false, 17), .inr (.inr (0, [.inr false, .inr false, .inl 17, .inl 18, .inl 19, .inl 20, .inl 21, .inl 22])), .inl (false, 48), .inl (false, 48), .inl (false, 48), .inl (false, 48), .inl (true, 48), .inl (false, 48), .inr (.inr (5, [.inr false, .inl 24, .inl 25, .inl 26, .inl 27, .inl 28])), .inl (true, 1296), .inl (false, 4), .inl (false, 4), .inl (false, 48), .inl (true, 52)]
theorem QL10_low : allLow QL10 = true := by decide +kernel
theorem QL10_len : QL10.length = 29 := by decide +kernel
theorem QL10_0 : QL10[0]? = some (.inr (.inr (7, [.inl 1, .inl 7, .inl 13, .inr false, .inl 16, .inl 0, .inl 0, .inl 0, .inr false, .inr true, .inl 0, .inl 0, .inl 0]))) := by decide +kernel
def QL11 : List LC := [.inr (.inr (7, [.inl 1, .inl 7, .inl 13, .inr false, .inl 16, .inl 23, .inl 0, .inl 0, .inr false, .inr true, .inl 0, .inl 0, .inl 0])), .inr (.inr (2, [.inr false, .inl 2, .inl 3, .inl 4, .inl 5, .inl 6, .inr false])), .inl (false, 84), .inl (false, 48), .inl (false, 6), .inl (false, 16), .inl (false, 48), .inr (.inr (2, [.inr false, .inl 8, .inl 9, .inl 10, .inl 11, .inl 12, .inr false])), .inl (false, 84), .inl (false, 48), .inl (false, 6), .inl (false, 16), .inl (false, 48), .inr (.inr (1, [.inr false, .inl 14, .inl 15])), .inl (false, 1440), .inl (false, 17), .inr (.inr (0, [.inr false, .inr false, .inl 17, .inl 18, .inl 19, .inl 20, .inl 21, .inl 22])), .inl (false, 48), .inl (false, 48), .inl (false, 48), .inl (false, 48), .inl (true, 48), .inl (false, 48), .inr (.inr (5, [.inr false, .inl 24, .inl 25, .inl 26, .inl 27, .inl 28])), .inl (true, 1296), .inl (false, 4), .inl (false, 4), .inl (false, 48), .inl (true, 52)]
theorem QL11_low : allLow QL11 = true := by decide +kernel
theorem QL11_len : QL11.length = 29 := by decide +kernel
theorem QL11_0 : QL11[0]? = some (.inr (.inr (7, [.inl 1, .inl 7, .inl 13, .inr false, .inl 16, .inl 23, .inl 0, .inl 0, .inr false, .inr true, .inl 0, .inl 0, .inl 0]))) := by decide +kernel
def QL12 : List LC := [.inr (.inr (7, [.inl 1, .inl 7, .inl 13, .inr false, .inl 16, .inl 23, .inl 0, .inl 0, .inr false, .inr true, .inl 0, .inl 0, .inl 0])), .inr (.inr (2, [.inr false, .inl 2, .inl 3, .inl 4, .inl 5, .inl 6, .inr false])), .inl (false, 84), .inl (false, 48), .inl (false, 6), .inl (false, 16), .inl (false, 48), .inr (.inr (2, [.inr false, .inl 8, .inl 9, .inl 10, .inl 11, .inl 12, .inr false])), .inl (false, 84), .inl (false, 48), .inl (false, 6), .inl (false, 16), .inl (false, 48), .inr (.inr (1, [.inr false, .inl 14, .inl 15])), .inl (false, 1440), .inl (false, 17), .inr (.inr (0, [.inr false, .inr false, .inl 17, .inl 18, .inl 19, .inl 20, .inl 21, .inl 22])), .inl (false, 48), .inl (false, 48), .inl (false, 48), .inl (false, 48), .inl (true, 48), .inl (false, 48), .inr (.inr (5, [.inr false, .inl 24, .inl 25, .inl 26, .inl 27, .inl 28])), .inl (true, 1296), .inl (false, 4), .inl (false, 4), .inl (false, 48), .inl (true, 52), .inr (.inr (6, [.inl 30, .inl 31, .inl 32, .inl 33, .inl 34, .inl 35, .inl 36, .inl 37, .inl 38, .inr false])), .inl (false, 16), .inl (false, 16), .inl (false, 16), .inl (false, 16), .inl (false, 16), .inl (false, 16), .inl (false, 16), .inl (false, 256), .inr (.inr (1, [.inr false, .inl 39, .inl 40])), .inl (false, 1440), .inl (false, 17)]
theorem QL12_low : allLow QL12 = true := by decide +kernel
theorem QL12_len : QL12.length = 41 := by decide +kernel
theorem QL12_0 : QL12[0]? = some (.inr (.inr (7, [.inl 1, .inl 7, .inl 13, .inr false, .inl 16, .inl 23, .inl 0, .inl 0, .inr false, .inr true, .inl 0, .inl 0, .inl 0]))) := by decide +kernel
def QL13 : List LC := [.inr (.inr (7, [.inl 1, .inl 7, .inl 13, .inr false, .inl 16, .inl 23, .inl 29, .inl 0, .inr false, .inr true, .inl 0, .inl 0, .inl 0])), .inr (.inr (2, [.inr false, .inl 2, .inl 3, .inl 4, .inl 5, .inl 6, .inr false])), .inl (false, 84), .inl (false, 48), .inl (false, 6), .inl (false, 16), .inl (false, 48), .inr (.inr (2, [.inr false, .inl 8, .inl 9, .inl 10, .inl 11, .inl 12, .inr false])), .inl (false, 84), .inl (false, 48), .inl (false, 6), .inl (false, 16), .inl (false, 48), .inr (.inr (1, [.inr false, .inl 14, .inl 15])), .inl (false, 1440), .inl (false, 17), .inr (.inr (0, [.inr false, .inr false, .inl 17, .inl 18, .inl 19, .inl 20, .inl 21, .inl 22])), .inl (false, 48), .inl (false, 48), .inl (false, 48), .inl (false, 48), .inl (true, 48), .inl (false, 48), .inr (.inr (5, [.inr false, .inl 24, .inl 25, .inl 26, .inl 27, .inl 28])), .inl (true, 1296), .inl (false, 4), .inl (false, 4), .inl (false, 48), .inl (true, 52), .inr (.inr (6, [.inl 30, .inl 31, .inl 32, .inl 33, .inl 34, .inl 35, .inl 36, .inl 37, .inl 38, .inr false])), .inl (false, 16), .inl (false, 16), .inl (false, 16), .inl (false, 16), .inl (false, 16), .inl (false, 16), .inl (false, 16), .inl (false, 256), .inr (.inr (1, [.inr false, .inl 39, .inl 40])), .inl (false, 1440), .inl (false, 17)]
theorem QL13_low : allLow QL13 = true := by decide +kernel
theorem QL13_len : QL13.length = 41 := by decide +kernel
theorem QL13_0 : QL13[0]? = some (.inr (.inr (7, [.inl 1, .inl 7, .inl 13, .inr false, .inl 16, .inl 23, .inl 29, .inl 0, .inr false, .inr true, .inl 0, .inl 0, .inl 0]))) := by decide +kernel
def QL14 : List LC := [.inr (.inr (7, [.inl 1, .inl 7, .inl 13, .inr false, .inl 16, .inl 23, .inl 29, .inl 0, .inr false, .inr true, .inl 0, .inl 0, .inl 0])), .inr (.inr (2, [.inr false, .inl 2, .inl 3, .inl 4, .inl 5, .inl 6, .inr false])), .inl (false, 84), .inl (false, 48), .inl (false, 6), .inl (false, 16), .inl (false, 48), .inr (.inr (2, [.inr false, .inl 8, .inl 9, .inl 10, .inl 11, .inl 12, .inr false])), .inl (false, 84), .inl (false, 48), .inl (false, 6), .inl (false, 16), .inl (false, 48), .inr (.inr (1, [.inr false, .inl 14, .inl 15])), .inl (false, 1440), .inl (false, 17), .inr (.inr (0, [.inr false, .inr false, .inl 17, .inl 18, .inl 19, .inl 20, .inl 21, .inl 22])), .inl (false, 48), .inl (false, 48), .inl (false, 48), .inl (false, 48), .inl (true, 48), .inl (false, 48), .inr (.inr (5, [.inr false, .inl 24, .inl 25, .inl 26, .inl 27, .inl 28])), .inl (true, 1296), .inl (false, 4), .inl (false, 4), .inl (false, 48), .inl (true, 52), .inr (.inr (6, [.inl 30, .inl 31, .inl 32, .inl 33, .inl 34, .inl 35, .inl 36, .inl 37, .inl 38, .inr false])), .inl (false, 16), .inl (false, 16), .inl (false, 16), .inl (false, 16), .inl (false, 16), .inl (false, 16), .inl (false, 16), .inl (false, 256), .inr (.inr (1, [.inr false, .inl 39, .inl 40])), .inl (false, 1440), .inl (false, 17), .inr (.inr (6, [.inl 42, .inl 43, .inl 44, .inl 45, .inl 46, .inl 47, .inl 48, .inl 49, .inl 50, .inr false])), .inl (false, 16), .inl (false, 16), .inl (false, 16), .inl (false, 16), .inl (false, 16), .inl (false, 16), .inl (false, 16), .inl (false, 256), .inr (.inr (1, [.inr false, .inl 51, .inl 52])), .inl (false, 1440), .inl (false, 17)]
theorem QL14_low : allLow QL14 = true := by decide +kernel
theorem QL14_len : QL14.length = 53 := by decide +kernel
theorem QL14_0 : QL14[0]? = some (.inr (.inr (7, [.inl 1, .inl 7, .inl 13, .inr false, .inl 16, .inl 23, .inl 29, .inl 0, .inr false, .inr true, .inl 0, .inl 0, .inl 0]))) := by decide +kernel
def QL15 : List LC := [.inr (.inr (7, [.inl 1, .inl 7, .inl 13, .inr false, .inl 16, .inl 23, .inl 29, .inl 41, .inr false, .inr true, .inl 0, .inl 0, .inl 0])), .inr (.inr (2, [.inr false, .inl 2, .inl 3, .inl 4, .inl 5, .inl 6, .inr false])), .inl (false, 84), .inl (false, 48), .inl (false, 6), .inl (false, 16), .inl (false, 48), .inr (.inr (2, [.inr false, .inl 8, .inl 9, .inl 10, .inl 11, .inl 12, .inr false])), .inl (false, 84), .inl (false, 48), .inl (false, 6), .inl (false, 16), .inl (false, 48), .inr (.inr (1, [.inr false, .inl 14, .inl 15])), .inl (false, 1440), .inl (false, 17), .inr (.inr (0, [.inr false, .inr false, .inl 17, .inl 18, .inl 19, .inl 20, .inl 21, .inl 22])), .inl (false, 48), .inl (false, 48), .inl (false, 48), .inl (false, 48), .inl (true, 48), .inl (false, 48), .inr (.inr (5, [.inr false, .inl 24, .inl 25, .inl 26, .inl 27, .inl 28])), .inl (true, 1296), .inl (false, 4), .inl (false, 4), .inl (false, 48), .inl (true, 52), .inr (.inr (6, [.inl 30, .inl 31, .inl 32, .inl 33, .inl 34, .inl 35, .inl 36, .inl 37, .inl 38, .inr false])), .inl (false, 16), .inl (false, 16), .inl (false, 16), .inl (false, 16), .inl (false, 16), .inl (false, 16), .inl (false, 16), .inl (false, 256), .inr (.inr (1, [.inr false, .inl 39, .inl 40])), .inl (false, 1440), .inl (false, 17), .inr (.inr (6, [.inl 42, .inl 43, .inl 44, .inl 45, .inl 46, .inl 47, .inl 48, .inl 49, .inl 50, .inr false])), .inl (false, 16), .inl (false, 16), .inl (false, 16), .inl (false, 16), .inl (false, 16), .inl (false, 16), .inl (false, 16), .inl (false, 256), .inr (.inr (1, [.inr false, .inl 51, .inl 52])), .inl (false, 1440), .inl (false, 17)]
theorem QL15_low : allLow QL15 = true := by decide +kernel
theorem QL15_len : QL15.length = 53 := by decide +kernel
theorem QL15_0 : QL15[0]? = some (.inr (.inr (7, [.inl 1, .inl 7, .inl 13, .inr false, .inl 16, .inl 23, .inl 29, .inl 41, .inr false, .inr true, .inl 0, .inl 0, .inl 0]))) := by decide +kernel
def QL16 : List LC := [.inr (.inr (7, [.inl 1, .inl 7, .inl 13, .inr false, .inl 16, .inl 23, .inl 29, .inl 41, .inr false, .inr true, .inl 0, .inl 0, .inl 0])), .inr (.inr (2, [.inr false, .inl 2, .inl 3, .inl 4, .inl 5, .inl 6, .inr false])), .inl (false, 84), .inl (false, 48), .inl (false, 6), .inl (false, 16), .inl (false, 48), .inr (.inr (2, [.inr false, .inl 8, .inl 9, .inl 10, .inl 11, .inl 12, .inr false])), .inl (false, 84), .inl (false, 48), .inl (false, 6), .inl (false, 16), .inl (false, 48), .inr (.inr (1, [.inr false, .inl 14, .inl 15])), .inl (false, 1440), .inl (false, 17), .inr (.inr (0, [.inr false, .inr false, .inl 17, .inl 18, .inl 19, .inl 20, .inl 21, .inl 22])), .inl (false, 48), .inl (false, 48), .inl (false, 48), .inl (false, 48), .inl (true, 48), .inl (false, 48), .inr (.inr (5, [.inr false, .inl 24, .inl 25, .inl 26, .inl 27, .inl 28])), .inl (true, 1296), .inl (false, 4), .inl (false, 4), .inl (false, 48), .inl (true, 52), .inr (.inr (6, [.inl 30, .inl 31, .inl 32, .inl 33, .inl 34, .inl 35, .inl 36, .inl 37, .inl 38, .inr false])), .inl (false, 16), .inl (false, 16), .inl (false, 16), .inl (false, 16), .inl (false, 16), .inl (false, 16), .inl (false, 16), .inl (false, 256), .inr (.inr (1, [.inr false, .inl 39, .inl 40])), .inl (false, 1440), .inl (false, 17), .inr (.inr (6, [.inl 42, .inl 43, .inl 44, .inl 45, .inl 46, .inl 47, .inl 48, .inl 49, .inl 50, .inr false])), .inl (false, 16), .inl (false, 16), .inl (false, 16), .inl (false, 16), .inl (false, 16), .inl (false, 16), .inl (false, 16), .inl (false, 256), .inr (.inr (1, [.inr false, .inl 51, .inl 52])), .inl (false, 1440), .inl (false, 17), .inr (.inr (4, [.inl 54, .inr false])), .inl (false, 120)]
theorem QL16_low : allLow QL16 = true := by decide +kernel
theorem QL16_len : QL16.length = 55 := by decide +kernel
theorem QL16_0 : QL16[0]? = some (.inr (.inr (7, [.inl 1, .inl 7, .inl 13, .inr false, .inl 16, .inl 23, .inl 29, .inl 41, .inr false, .inr true, .inl 0, .inl 0, .inl 0]))) := by decide +kernel
def QL17 : List LC := [.inr (.inr (7, [.inl 1, .inl 7, .inl 13, .inr false, .inl 16, .inl 23, .inl 29, .inl 41, .inr false, .inr true, .inl 53, .inl 0, .inl 0])), .inr (.inr (2, [.inr false, .inl 2, .inl 3, .inl 4, .inl 5, .inl 6, .inr false])), .inl (false, 84), .inl (false, 48), .inl (false, 6), .inl (false, 16), .inl (false, 48), .inr (.inr (2, [.inr false, .inl 8, .inl 9, .inl 10, .inl 11, .inl 12, .inr false])), .inl (false, 84), .inl (false, 48), .inl (false, 6), .inl (false, 16), .inl (false, 48), .inr (.inr (1, [.inr false, .inl 14, .inl 15])), .inl (false, 1440), .inl (false, 17), .inr (.inr (0, [.inr false, .inr false, .inl 17, .inl 18, .inl 19, .inl 20, .inl 21, .inl 22])), .inl (false, 48), .inl (false, 48), .inl (false, 48), .inl (false, 48), .inl (true, 48), .inl (false, 48), .inr (.inr (5, [.inr false, .inl 24, .inl 25, .inl 26, .inl 27, .inl 28])), .inl (true, 1296), .inl (false, 4), .inl (false, 4), .inl (false, 48), .inl (true, 52), .inr (.inr (6, [.inl 30, .inl 31, .inl 32, .inl 33, .inl 34, .inl 35, .inl 36, .inl 37, .inl 38, .inr false])), .inl (false, 16), .inl (false, 16), .inl (false, 16), .inl (false, 16), .inl (false, 16), .inl (false, 16), .inl (false, 16), .inl (false, 256), .inr (.inr (1, [.inr false, .inl 39, .inl 40])), .inl (false, 1440), .inl (false, 17), .inr (.inr (6, [.inl 42, .inl 43, .inl 44, .inl 45, .inl 46, .inl 47, .inl 48, .inl 49, .inl 50, .inr false])), .inl (false, 16), .inl (false, 16), .inl (false, 16), .inl (false, 16), .inl (false, 16), .inl (false, 16), .inl (false, 16), .inl (false, 256), .inr (.inr (1, [.inr false, .inl 51, .inl 52])), .inl (false, 1440), .inl (false, 17), .inr (.inr (4, [.inl 54, .inr false])), .inl (false, 120)]
theorem QL17_low : allLow QL17 = true := by decide +kernel
theorem QL17_len : QL17.length = 55 := by decide +kernel
theorem QL17_0 : QL17[0]? = some (.inr (.inr (7, [.inl 1, .inl 7, .inl 13, .inr false, .inl 16, .inl 23, .inl 29, .inl 41, .inr false, .inr true, .inl 53, .inl 0, .inl 0]))) := by decide +kernel
def QL18 : List LC := [.inr (.inr (7, [.inl 1, .inl 7, .inl 13, .inr false, .inl 16, .inl 23, .inl 29, .inl 41, .inr false, .inr true, .inl 53, .inl 0, .inl 0])), .inr (.inr (2, [.inr false, .inl 2, .inl 3, .inl 4, .inl 5, .inl 6, .inr false])), .inl (false, 84), .inl (false, 48), .inl (false, 6), .inl (false, 16), .inl (false, 48), .inr (.inr (2, [.inr false, .inl 8, .inl 9, .inl 10, .inl 11, .inl 12, .inr false])), .inl (false, 84), .inl (false, 48), .inl (false, 6), .inl (false, 16), .inl (false, 48), .inr (.inr (1, [.inr false, .inl 14, .inl 15])), .inl (false, 1440), .inl (false, 17), .inr (.inr (0, [.inr false, .inr false, .inl 17, .inl 18, .inl 19, .inl 20, .inl 21, .inl 22])), .inl (false, 48), .inl (false, 48), .inl (false, 48), .inl (false, 48), .inl (true, 48), .inl (false, 48), .inr (.inr (5, [.inr false, .inl 24, .inl 25, .inl 26, .inl 27, .inl 28])), .inl (true, 1296), .inl (false, 4), .inl (false, 4), .inl (false, 48), .inl (true, 52), .inr (.inr (6, [.inl 30, .inl 31, .inl 32, .inl 33, .inl 34, .inl 35, .inl 36, .inl 37, .inl 38, .inr false])), .inl (false, 16), .inl (false, 16), .inl (false, 16), .inl (false, 16), .inl (false, 16), .inl (false, 16), .inl (false, 16), .inl (false, 256), .inr (.inr (1, [.inr false, .inl 39, .inl 40])), .inl (false, 1440), .inl (false, 17), .inr (.inr (6, [.inl 42, .inl 43, .inl 44, .inl 45, .inl 46, .inl 47, .inl 48, .inl 49, .inl 50, .inr false])), .inl (false, 16), .inl (false, 16), .inl (false, 16), .inl (false, 16), .inl (false, 16), .inl (false, 16), .inl (false, 16), .inl (false, 256), .inr (.inr (1, [.inr false, .inl 51, .inl 52])), .inl (false, 1440), .inl (false, 17), .inr (.inr (4, [.inl 54, .inr false])), .inl (false, 120), .inr (.inl (4, []))]
theorem QL18_low : allLow QL18 = true := by decide +kernel
theorem QL18_len : QL18.length = 56 := by decide +kernel
theorem QL18_0 : QL18[0]? = some (.inr (.inr (7, [.inl 1, .inl 7, .inl 13, .inr false, .inl 16, .inl 23, .inl 29, .inl 41, .inr false, .inr true, .inl 53, .inl 0, .inl 0]))) := by decide +kernel
def QL19 : List LC := [.inr (.inr (7, [.inl 1, .inl 7, .inl 13, .inr false, .inl 16, .inl 23, .inl 29, .inl 41, .inr false, .inr true, .inl 53, .inl 55, .inl 0])), .inr (.inr (2, [.inr false, .inl 2, .inl 3, .inl 4, .inl 5, .inl 6, .inr false])), .inl (false, 84), .inl (false, 48), .inl (false, 6), .inl (false, 16), .inl (false, 48), .inr (.inr (2, [.inr false, .inl 8, .inl 9, .inl 10, .inl 11, .inl 12, .inr false])), .inl (false, 84), .inl (false, 48), .inl (false, 6), .inl (false, 16), .inl (false, 48), .inr (.inr (1, [.inr false, .inl 14, .inl 15])), .inl (false, 1440), .inl (false, 17), .inr (.inr (0, [.inr false, .inr false, .inl 17, .inl 18, .inl 19, .inl 20, .inl 21, .inl 22])), .inl (false, 48), .inl (false, 48), .inl (false, 48), .inl (false, 48), .inl (true, 48), .inl (false, 48), .inr (.inr (5, [.inr false, .inl 24, .inl 25, .inl 26, .inl 27, .inl 28])), .inl (true, 1296), .inl (false, 4), .inl (false, 4), .inl (false, 48), .inl (true, 52), .inr (.inr (6, [.inl 30, .inl 31, .inl 32, .inl 33, .inl 34, .inl 35, .inl 36, .inl 37, .inl 38, .inr false])), .inl (false, 16), .inl (false, 16), .inl (false, 16), .inl (false, 16), .inl (false, 16), .inl (false, 16), .inl (false, 16), .inl (false, 256), .inr (.inr (1, [.inr false, .inl 39, .inl 40])), .inl (false, 1440), .inl (false, 17), .inr (.inr (6, [.inl 42, .inl 43, .inl 44, .inl 45, .inl 46, .inl 47, .inl 48, .inl 49, .inl 50, .inr false])), .inl (false, 16), .inl (false, 16), .inl (false, 16), .inl (false, 16), .inl (false, 16), .inl (false, 16), .inl (false, 16), .inl (false, 256), .inr (.inr (1, [.inr false, .inl 51, .inl 52])), .inl (false, 1440), .inl (false, 17), .inr (.inr (4, [.inl 54, .inr false])), .inl (false, 120), .inr (.inl (4, []))]
theorem QL19_low : allLow QL19 = true := by decide +kernel
theorem QL19_len : QL19.length = 56 := by decide +kernel
theorem QL19_0 : QL19[0]? = some (.inr (.inr (7, [.inl 1, .inl 7, .inl 13, .inr false, .inl 16, .inl 23, .inl 29, .inl 41, .inr false, .inr true, .inl 53, .inl 55, .inl 0]))) := by decide +kernel
def QL20 : List LC := [.inr (.inr (7, [.inl 1, .inl 7, .inl 13, .inr false, .inl 16, .inl 23, .inl 29, .inl 41, .inr false, .inr true, .inl 53, .inl 55, .inl 0])), .inr (.inr (2, [.inr false, .inl 2, .inl 3, .inl 4, .inl 5, .inl 6, .inr false])), .inl (false, 84), .inl (false, 48), .inl (false, 6), .inl (false, 16), .inl (false, 48), .inr (.inr (2, [.inr false, .inl 8, .inl 9, .inl 10, .inl 11, .inl 12, .inr false])), .inl (false, 84), .inl (false, 48), .inl (false, 6), .inl (false, 16), .inl (false, 48), .inr (.inr (1, [.inr false, .inl 14, .inl 15])), .inl (false, 1440), .inl (false, 17), .inr (.inr (0, [.inr false, .inr false, .inl 17, .inl 18, .inl 19, .inl 20, .inl 21, .inl 22])), .inl (false, 48), .inl (false, 48), .inl (false, 48), .inl (false, 48), .inl (true, 48), .inl (false, 48), .inr (.inr (5, [.inr false, .inl 24, .inl 25, .inl 26, .inl 27, .inl 28])), .inl (true, 1296), .inl (false, 4), .inl (false, 4), .inl (false, 48), .inl (true, 52), .inr (.inr (6, [.inl 30, .inl 31, .inl 32, .inl 33, .inl 34, .inl 35, .inl 36, .inl 37, .inl 38, .inr false])), .inl (false, 16), .inl (false, 16), .inl (false, 16), .inl (false, 16), .inl (false, 16), .inl (false, 16), .inl (false, 16), .inl (false, 256), .inr (.inr (1, [.inr false, .inl 39, .inl 40])), .inl (false, 1440), .inl (false, 17), .inr (.inr (6, [.inl 42, .inl 43, .inl 44, .inl 45, .inl 46, .inl 47, .inl 48, .inl 49, .inl 50, .inr false])), .inl (false, 16), .inl (false, 16), .inl (false, 16), .inl (false, 16), .inl (false, 16), .inl (false, 16), .inl (false, 16), .inl (false, 256), .inr (.inr (1, [.inr false, .inl 51, .inl 52])), .inl (false, 1440), .inl (false, 17), .inr (.inr (4, [.inl 54, .inr false])), .inl (false, 120), .inr (.inl (4, [])), .inl (false, 8)]
theorem QL20_low : allLow QL20 = true := by decide +kernel
theorem QL20_len : QL20.length = 57 := by decide +kernel
theorem QL20_0 : QL20[0]? = some (.inr (.inr (7, [.inl 1, .inl 7, .inl 13, .inr false, .inl 16, .inl 23, .inl 29, .inl 41, .inr false, .inr true, .inl 53, .inl 55, .inl 0]))) := by decide +kernel
def QL21 : List LC := [.inr (.inr (7, [.inl 1, .inl 7, .inl 13, .inr false, .inl 16, .inl 23, .inl 29, .inl 41, .inr false, .inr true, .inl 53, .inl 55, .inl 56])), .inr (.inr (2, [.inr false, .inl 2, .inl 3, .inl 4, .inl 5, .inl 6, .inr false])), .inl (false, 84), .inl (false, 48), .inl (false, 6), .inl (false, 16), .inl (false, 48), .inr (.inr (2, [.inr false, .inl 8, .inl 9, .inl 10, .inl 11, .inl 12, .inr false])), .inl (false, 84), .inl (false, 48), .inl (false, 6), .inl (false, 16), .inl (false, 48), .inr (.inr (1, [.inr false, .inl 14, .inl 15])), .inl (false, 1440), .inl (false, 17), .inr (.inr (0, [.inr false, .inr false, .inl 17, .inl 18, .inl 19, .inl 20, .inl 21, .inl 22])), .inl (false, 48), .inl (false, 48), .inl (false, 48), .inl (false, 48), .inl (true, 48), .inl (false, 48), .inr (.inr (5, [.inr false, .inl 24, .inl 25, .inl 26, .inl 27, .inl 28])), .inl (true, 1296), .inl (false, 4), .inl (false, 4), .inl (false, 48), .inl (true, 52), .inr (.inr (6, [.inl 30, .inl 31, .inl 32, .inl 33, .inl 34, .inl 35, .inl 36, .inl 37, .inl 38, .inr false])), .inl (false, 16), .inl (false, 16), .inl (false, 16), .inl (false, 16), .inl (false, 16), .inl (false, 16), .inl (false, 16), .inl (false, 256), .inr (.inr (1, [.inr false, .inl 39, .inl 40])), .inl (false, 1440), .inl (false, 17), .inr (.inr (6, [.inl 42, .inl 43, .inl 44, .inl 45, .inl 46, .inl 47, .inl 48, .inl 49, .inl 50, .inr false])), .inl (false, 16), .inl (false, 16), .inl (false, 16), .inl (false, 16), .inl (false, 16), .inl (false, 16), .inl (false, 16), .inl (false, 256), .inr (.inr (1, [.inr false, .inl 51, .inl 52])), .inl (false, 1440), .inl (false, 17), .inr (.inr (4, [.inl 54, .inr false])), .inl (false, 120), .inr (.inl (4, [])), .inl (false, 8)]
theorem QL21_low : allLow QL21 = true := by decide +kernel
theorem QL21_len : QL21.length = 57 := by decide +kernel
theorem QL21_0 : QL21[0]? = some (.inr (.inr (7, [.inl 1, .inl 7, .inl 13, .inr false, .inl 16, .inl 23, .inl 29, .inl 41, .inr false, .inr true, .inl 53, .inl 55, .inl 56]))) := by decide +kernel
def QL22 : List LC := [.inr (.inr (7, [.inl 1, .inl 7, .inl 13, .inr false, .inl 16, .inl 23, .inl 29, .inl 41, .inr false, .inr true, .inl 53, .inl 55, .inl 56])), .inr (.inr (2, [.inr false, .inl 2, .inl 3, .inl 4, .inl 5, .inl 6, .inr false])), .inl (false, 84), .inl (false, 48), .inl (false, 6), .inl (false, 16), .inl (false, 48), .inr (.inr (2, [.inr false, .inl 8, .inl 9, .inl 10, .inl 11, .inl 12, .inr false])), .inl (false, 84), .inl (false, 48), .inl (false, 6), .inl (false, 16), .inl (false, 48), .inr (.inr (1, [.inr false, .inl 14, .inl 15])), .inl (false, 1440), .inl (false, 17), .inr (.inr (0, [.inr false, .inr false, .inl 17, .inl 18, .inl 19, .inl 20, .inl 21, .inl 22])), .inl (false, 48), .inl (false, 48), .inl (false, 48), .inl (false, 48), .inl (true, 48), .inl (false, 48), .inr (.inr (5, [.inr false, .inl 24, .inl 25, .inl 26, .inl 27, .inl 28])), .inl (true, 1296), .inl (false, 4), .inl (false, 4), .inl (false, 48), .inl (true, 52), .inr (.inr (6, [.inl 30, .inl 31, .inl 32, .inl 33, .inl 34, .inl 35, .inl 36, .inl 37, .inl 38, .inr false])), .inl (false, 16), .inl (false, 16), .inl (false, 16), .inl (false, 16), .inl (false, 16), .inl (false, 16), .inl (false, 16), .inl (false, 256), .inr (.inr (1, [.inr false, .inl 39, .inl 40])), .inl (false, 1440), .inl (false, 17), .inr (.inr (6, [.inl 42, .inl 43, .inl 44, .inl 45, .inl 46, .inl 47, .inl 48, .inl 49, .inl 50, .inr false])), .inl (false, 16), .inl (false, 16), .inl (false, 16), .inl (false, 16), .inl (false, 16), .inl (false, 16), .inl (false, 16), .inl (false, 256), .inr (.inr (1, [.inr false, .inl 51, .inl 52])), .inl (false, 1440), .inl (false, 17), .inr (.inr (4, [.inl 54, .inr false])), .inl (false, 120), .inr (.inl (4, [])), .inl (false, 8), .inr (.inr (3, [.inr false, .inr false, .inl 58])), .inl (true, 60)]
theorem QL22_low : allLow QL22 = true := by decide +kernel
theorem QL22_len : QL22.length = 59 := by decide +kernel
theorem QL22_0 : QL22[0]? = some (.inr (.inr (7, [.inl 1, .inl 7, .inl 13, .inr false, .inl 16, .inl 23, .inl 29, .inl 41, .inr false, .inr true, .inl 53, .inl 55, .inl 56]))) := by decide +kernel
theorem QL22_a : QL22[55]? = some (.inr (.inl (4, []))) := by decide +kernel
theorem QL22_o : QL22[57]? = some (.inr (.inr (3, [.inr false, .inr false, .inl 58]))) := by decide +kernel
def QL23 : List LC := [.inr (.inr (7, [.inl 1, .inl 7, .inl 13, .inr false, .inl 16, .inl 23, .inl 29, .inl 41, .inr false, .inr true, .inl 53, .inl 55, .inl 56])), .inr (.inr (2, [.inr false, .inl 2, .inl 3, .inl 4, .inl 5, .inl 6, .inr false])), .inl (false, 84), .inl (false, 48), .inl (false, 6), .inl (false, 16), .inl (false, 48), .inr (.inr (2, [.inr false, .inl 8, .inl 9, .inl 10, .inl 11, .inl 12, .inr false])), .inl (false, 84), .inl (false, 48), .inl (false, 6), .inl (false, 16), .inl (false, 48), .inr (.inr (1, [.inr false, .inl 14, .inl 15])), .inl (false, 1440), .inl (false, 17), .inr (.inr (0, [.inr false, .inr false, .inl 17, .inl 18, .inl 19, .inl 20, .inl 21, .inl 22])), .inl (false, 48), .inl (false, 48), .inl (false, 48), .inl (false, 48), .inl (true, 48), .inl (false, 48), .inr (.inr (5, [.inr false, .inl 24, .inl 25, .inl 26, .inl 27, .inl 28])), .inl (true, 1296), .inl (false, 4), .inl (false, 4), .inl (false, 48), .inl (true, 52), .inr (.inr (6, [.inl 30, .inl 31, .inl 32, .inl 33, .inl 34, .inl 35, .inl 36, .inl 37, .inl 38, .inr false])), .inl (false, 16), .inl (false, 16), .inl (false, 16), .inl (false, 16), .inl (false, 16), .inl (false, 16), .inl (false, 16), .inl (false, 256), .inr (.inr (1, [.inr false, .inl 39, .inl 40])), .inl (false, 1440), .inl (false, 17), .inr (.inr (6, [.inl 42, .inl 43, .inl 44, .inl 45, .inl 46, .inl 47, .inl 48, .inl 49, .inl 50, .inr false])), .inl (false, 16), .inl (false, 16), .inl (false, 16), .inl (false, 16), .inl (false, 16), .inl (false, 16), .inl (false, 16), .inl (false, 256), .inr (.inr (1, [.inr false, .inl 51, .inl 52])), .inl (false, 1440), .inl (false, 17), .inr (.inr (4, [.inl 54, .inr false])), .inl (false, 120), .inr (.inl (4, [57])), .inl (false, 8), .inr (.inr (3, [.inr false, .inr false, .inl 58])), .inl (true, 60)]
theorem QL23_low : allLow QL23 = true := by decide +kernel
theorem QL23_len : QL23.length = 59 := by decide +kernel
theorem QL23_0 : QL23[0]? = some (.inr (.inr (7, [.inl 1, .inl 7, .inl 13, .inr false, .inl 16, .inl 23, .inl 29, .inl 41, .inr false, .inr true, .inl 53, .inl 55, .inl 56]))) := by decide +kernel
def QL24 : List LC := [.inr (.inr (7, [.inl 1, .inl 7, .inl 13, .inr false, .inl 16, .inl 23, .inl 29, .inl 41, .inr false, .inr true, .inl 53, .inl 55, .inl 56])), .inr (.inr (2, [.inr false, .inl 2, .inl 3, .inl 4, .inl 5, .inl 6, .inr false])), .inl (false, 84), .inl (false, 48), .inl (false, 6), .inl (false, 16), .inl (false, 48), .inr (.inr (2, [.inr false, .inl 8, .inl 9, .inl 10, .inl 11, .inl 12, .inr false])), .inl (false, 84), .inl (false, 48), .inl (false, 6), .inl (false, 16), .inl (false, 48), .inr (.inr (1, [.inr false, .inl 14, .inl 15])), .inl (false, 1440), .inl (false, 17), .inr (.inr (0, [.inr false, .inr false, .inl 17, .inl 18, .inl 19, .inl 20, .inl 21, .inl 22])), .inl (false, 48), .inl (false, 48), .inl (false, 48), .inl (false, 48), .inl (true, 48), .inl (false, 48), .inr (.inr (5, [.inr false, .inl 24, .inl 25, .inl 26, .inl 27, .inl 28])), .inl (true, 1296), .inl (false, 4), .inl (false, 4), .inl (false, 48), .inl (true, 52), .inr (.inr (6, [.inl 30, .inl 31, .inl 32, .inl 33, .inl 34, .inl 35, .inl 36, .inl 37, .inl 38, .inr false])), .inl (false, 16), .inl (false, 16), .inl (false, 16), .inl (false, 16), .inl (false, 16), .inl (false, 16), .inl (false, 16), .inl (false, 256), .inr (.inr (1, [.inr false, .inl 39, .inl 40])), .inl (false, 1440), .inl (false, 17), .inr (.inr (6, [.inl 42, .inl 43, .inl 44, .inl 45, .inl 46, .inl 47, .inl 48, .inl 49, .inl 50, .inr false])), .inl (false, 16), .inl (false, 16), .inl (false, 16), .inl (false, 16), .inl (false, 16), .inl (false, 16), .inl (false, 16), .inl (false, 256), .inr (.inr (1, [.inr false, .inl 51, .inl 52])), .inl (false, 1440), .inl (false, 17), .inr (.inr (4, [.inl 54, .inr false])), .inl (false, 120), .inr (.inl (4, [57])), .inl (false, 8), .inr (.inr (3, [.inr false, .inr false, .inl 58])), .inl (true, 60), .inr (.inr (3, [.inr false, .inr false, .inl 60])), .inl (true, 60)]
theorem QL24_low : allLow QL24 = true := by decide +kernel
theorem QL24_len : QL24.length = 61 := by decide +kernel
theorem QL24_0 : QL24[0]? = some (.inr (.inr (7, [.inl 1, .inl 7, .inl 13, .inr false, .inl 16, .inl 23, .inl 29, .inl 41, .inr false, .inr true, .inl 53, .inl 55, .inl 56]))) := by decide +kernel
theorem QL24_a : QL24[55]? = some (.inr (.inl (4, [57]))) := by decide +kernel
theorem QL24_o : QL24[59]? = some (.inr (.inr (3, [.inr false, .inr false, .inl 60]))) := by decide +kernel
def QL25 : List LC := [.inr (.inr (7, [.inl 1, .inl 7, .inl 13, .inr false, .inl 16, .inl 23, .inl 29, .inl 41, .inr false, .inr true, .inl 53, .inl 55, .inl 56])), .inr (.inr (2, [.inr false, .inl 2, .inl 3, .inl 4, .inl 5, .inl 6, .inr false])), .inl (false, 84), .inl (false, 48), .inl (false, 6), .inl (false, 16), .inl (false, 48), .inr (.inr (2, [.inr false, .inl 8, .inl 9, .inl 10, .inl 11, .inl 12, .inr false])), .inl (false, 84), .inl (false, 48), .inl (false, 6), .inl (false, 16), .inl (false, 48), .inr (.inr (1, [.inr false, .inl 14, .inl 15])), .inl (false, 1440), .inl (false, 17), .inr (.inr (0, [.inr false, .inr false, .inl 17, .inl 18, .inl 19, .inl 20, .inl 21, .inl 22])), .inl (false, 48), .inl (false, 48), .inl (false, 48), .inl (false, 48), .inl (true, 48), .inl (false, 48), .inr (.inr (5, [.inr false, .inl 24, .inl 25, .inl 26, .inl 27, .inl 28])), .inl (true, 1296), .inl (false, 4), .inl (false, 4), .inl (false, 48), .inl (true, 52), .inr (.inr (6, [.inl 30, .inl 31, .inl 32, .inl 33, .inl 34, .inl 35, .inl 36, .inl 37, .inl 38, .inr false])), .inl (false, 16), .inl (false, 16), .inl (false, 16), .inl (false, 16), .inl (false, 16), .inl (false, 16), .inl (false, 16), .inl (false, 256), .inr (.inr (1, [.inr false, .inl 39, .inl 40])), .inl (false, 1440), .inl (false, 17), .inr (.inr (6, [.inl 42, .inl 43, .inl 44, .inl 45, .inl 46, .inl 47, .inl 48, .inl 49, .inl 50, .inr false])), .inl (false, 16), .inl (false, 16), .inl (false, 16), .inl (false, 16), .inl (false, 16), .inl (false, 16), .inl (false, 16), .inl (false, 256), .inr (.inr (1, [.inr false, .inl 51, .inl 52])), .inl (false, 1440), .inl (false, 17), .inr (.inr (4, [.inl 54, .inr false])), .inl (false, 120), .inr (.inl (4, [57, 59])), .inl (false, 8), .inr (.inr (3, [.inr false, .inr false, .inl 58])), .inl (true, 60), .inr (.inr (3, [.inr false, .inr false, .inl 60])), .inl (true, 60)]
theorem QL25_low : allLow QL25 = true := by decide +kernel
theorem QL25_len : QL25.length = 61 := by decide +kernel
theorem QL25_0 : QL25[0]? = some (.inr (.inr (7, [.inl 1, .inl 7, .inl 13, .inr false, .inl 16, .inl 23, .inl 29, .inl 41, .inr false, .inr true, .inl 53, .inl 55, .inl 56]))) := by decide +kernel
def QL26 : List LC := [.inr (.inr (7, [.inl 1, .inl 7, .inl 13, .inr false, .inl 16, .inl 23, .inl 29, .inl 41, .inr false, .inr true, .inl 53, .inl 55, .inl 56])), .inr (.inr (2, [.inr false, .inl 2, .inl 3, .inl 4, .inl 5, .inl 6, .inr false])), .inl (false, 84), .inl (false, 48), .inl (false, 6), .inl (false, 16), .inl (false, 48), .inr (.inr (2, [.inr false, .inl 8, .inl 9, .inl 10, .inl 11, .inl 12, .inr false])), .inl (false, 84), .inl (false, 48), .inl (false, 6), .inl (false, 16), .inl (false, 48), .inr (.inr (1, [.inr false, .inl 14, .inl 15])), .inl (false, 1440), .inl (false, 17), .inr (.inr (0, [.inr false, .inr false, .inl 17, .inl 18, .inl 19, .inl 20, .inl 21, .inl 22])), .inl (false, 48), .inl (false, 48), .inl (false, 48), .inl (false, 48), .inl (true, 48), .inl (false, 48), .inr (.inr (5, [.inr false, .inl 24, .inl 25, .inl 26, .inl 27, .inl 28])), .inl (true, 1296), .inl (false, 4), .inl (false, 4), .inl (false, 48), .inl (true, 52), .inr (.inr (6, [.inl 30, .inl 31, .inl 32, .inl 33, .inl 34, .inl 35, .inl 36, .inl 37, .inl 38, .inr false])), .inl (false, 16), .inl (false, 16), .inl (false, 16), .inl (false, 16), .inl (false, 16), .inl (false, 16), .inl (false, 16), .inl (false, 256), .inr (.inr (1, [.inr false, .inl 39, .inl 40])), .inl (false, 1440), .inl (false, 17), .inr (.inr (6, [.inl 42, .inl 43, .inl 44, .inl 45, .inl 46, .inl 47, .inl 48, .inl 49, .inl 50, .inr false])), .inl (false, 16), .inl (false, 16), .inl (false, 16), .inl (false, 16), .inl (false, 16), .inl (false, 16), .inl (false, 16), .inl (false, 256), .inr (.inr (1, [.inr false, .inl 51, .inl 52])), .inl (false, 1440), .inl (false, 17), .inr (.inr (4, [.inl 54, .inr false])), .inl (false, 120), .inr (.inl (4, [57, 59])), .inl (false, 8), .inr (.inr (3, [.inr false, .inr false, .inl 58])), .inl (true, 60), .inr (.inr (3, [.inr false, .inr false, .inl 60])), .inl (true, 60), .inr (.inr (3, [.inr false, .inr false, .inl 62])), .inl (true, 60)]
theorem QL26_low : allLow QL26 = true := by decide +kernel
theorem QL26_len : QL26.length = 63 := by decide +kernel
theorem QL26_0 : QL26[0]? = some (.inr (.inr (7, [.inl 1, .inl 7, .inl 13, .inr false, .inl 16, .inl 23, .inl 29, .inl 41, .inr false, .inr true, .inl 53, .inl 55, .inl 56]))) := by decide +kernel
theorem QL26_a : QL26[55]? = some (.inr (.inl (4, [57, 59]))) := by decide +kernel
theorem QL26_o : QL26[61]? = some (.inr (.inr (3, [.inr false, .inr false, .inl 62]))) := by decide +kernel
def QL27 : List LC := [.inr (.inr (7, [.inl 1, .inl 7, .inl 13, .inr false, .inl 16, .inl 23, .inl 29, .inl 41, .inr false, .inr true, .inl 53, .inl 55, .inl 56])), .inr (.inr (2, [.inr false, .inl 2, .inl 3, .inl 4, .inl 5, .inl 6, .inr false])), .inl (false, 84), .inl (false, 48), .inl (false, 6), .inl (false, 16), .inl (false, 48), .inr (.inr (2, [.inr false, .inl 8, .inl 9, .inl 10, .inl 11, .inl 12, .inr false])), .inl (false, 84), .inl (false, 48), .inl (false, 6), .inl (false, 16), .inl (false, 48), .inr (.inr (1, [.inr false, .inl 14, .inl 15])), .inl (false, 1440), .inl (false, 17), .inr (.inr (0, [.inr false, .inr false, .inl 17, .inl 18, .inl 19, .inl 20, .inl 21, .inl 22])), .inl (false, 48), .inl (false, 48), .inl (false, 48), .inl (false, 48), .inl (true, 48), .inl (false, 48), .inr (.inr (5, [.inr false, .inl 24, .inl 25, .inl 26, .inl 27, .inl 28])), .inl (true, 1296), .inl (false, 4), .inl (false, 4), .inl (false, 48), .inl (true, 52), .inr (.inr (6, [.inl 30, .inl 31, .inl 32, .inl 33, .inl 34, .inl 35, .inl 36, .inl 37, .inl 38, .inr false])), .inl (false, 16), .inl (false, 16), .inl (false, 16), .inl (false, 16), .inl (false, 16), .inl (false, 16), .inl (false, 16), .inl (false, 256), .inr (.inr (1, [.inr false, .inl 39, .inl 40])), .inl (false, 1440), .inl (false, 17), .inr (.inr (6, [.inl 42, .inl 43, .inl 44, .inl 45, .inl 46, .inl 47, .inl 48, .inl 49, .inl 50, .inr false])), .inl (false, 16), .inl (false, 16), .inl (false, 16), .inl (false, 16), .inl (false, 16), .inl (false, 16), .inl (false, 16), .inl (false, 256), .inr (.inr (1, [.inr false, .inl 51, .inl 52])), .inl (false, 1440), .inl (false, 17), .inr (.inr (4, [.inl 54, .inr false])), .inl (false, 120), .inr (.inl (4, [57, 59, 61])), .inl (false, 8), .inr (.inr (3, [.inr false, .inr false, .inl 58])), .inl (true, 60), .inr (.inr (3, [.inr false, .inr false, .inl 60])), .inl (true, 60), .inr (.inr (3, [.inr false, .inr false, .inl 62])), .inl (true, 60)]
theorem QL27_low : allLow QL27 = true := by decide +kernel
theorem QL27_len : QL27.length = 63 := by decide +kernel
theorem QL27_0 : QL27[0]? = some (.inr (.inr (7, [.inl 1, .inl 7, .inl 13, .inr false, .inl 16, .inl 23, .inl 29, .inl 41, .inr false, .inr true, .inl 53, .inl 55, .inl 56]))) := by decide +kernel
def QL28 : List LC := [.inr (.inr (7, [.inl 1, .inl 7, .inl 13, .inr false, .inl 16, .inl 23, .inl 29, .inl 41, .inr false, .inr true, .inl 53, .inl 55, .inl 56])), .inr (.inr (2, [.inr false, .inl 2, .inl 3, .inl 4, .inl 5, .inl 6, .inr false])), .inl (false, 84), .inl (false, 48), .inl (false, 6), .inl (false, 16), .inl (false, 48), .inr (.inr (2, [.inr false, .inl 8, .inl 9, .inl 10, .inl 11, .inl 12, .inr false])), .inl (false, 84), .inl (false, 48), .inl (false, 6), .inl (false, 16), .inl (false, 48), .inr (.inr (1, [.inr false, .inl 14, .inl 15])), .inl (false, 1440), .inl (false, 17), .inr (.inr (0, [.inr false, .inr false, .inl 17, .inl 18, .inl 19, .inl 20, .inl 21, .inl 22])), .inl (false, 48), .inl (false, 48), .inl (false, 48), .inl (false, 48), .inl (true, 48), .inl (false, 48), .inr (.inr (5, [.inr false, .inl 24, .inl 25, .inl 26, .inl 27, .inl 28])), .inl (true, 1296), .inl (false, 4), .inl (false, 4), .inl (false, 48), .inl (true, 52), .inr (.inr (6, [.inl 30, .inl 31, .inl 32, .inl 33, .inl 34, .inl 35, .inl 36, .inl 37, .inl 38, .inr false])), .inl (false, 16), .inl (false, 16), .inl (false, 16), .inl (false, 16), .inl (false, 16), .inl (false, 16), .inl (false, 16), .inl (false, 256), .inr (.inr (1, [.inr false, .inl 39, .inl 40])), .inl (false, 1440), .inl (false, 17), .inr (.inr (6, [.inl 42, .inl 43, .inl 44, .inl 45, .inl 46, .inl 47, .inl 48, .inl 49, .inl 50, .inr false])), .inl (false, 16), .inl (false, 16), .inl (false, 16), .inl (false, 16), .inl (false, 16), .inl (false, 16), .inl (false, 16), .inl (false, 256), .inr (.inr (1, [.inr false, .inl 51, .inl 52])), .inl (false, 1440), .inl (false, 17), .inr (.inr (4, [.inl 54, .inr false])), .inl (false, 120), .inr (.inl (4, [57, 59, 61])), .inl (false, 8), .inr (.inr (3, [.inr false, .inr false, .inl 58])), .inl (true, 60), .inr (.inr (3, [.inr false, .inr false, .inl 60])), .inl (true, 60), .inr (.inr (3, [.inr false, .inr false, .inl 62])), .inl (true, 60), .inr (.inr (3, [.inr false, .inr false, .inl 64])), .inl (true, 60)]
theorem QL28_low : allLow QL28 = true := by decide +kernel
theorem QL28_len : QL28.length = 65 := by decide +kernel
theorem QL28_0 : QL28[0]? = some (.inr (.inr (7, [.inl 1, .inl 7, .inl 13, .inr false, .inl 16, .inl 23, .inl 29, .inl 41, .inr false, .inr true, .inl 53, .inl 55, .inl 56]))) := by decide +kernel
theorem QL28_a : QL28[55]? = some (.inr (.inl (4, [57, 59, 61]))) := by decide +kernel
theorem QL28_o : QL28[63]? = some (.inr (.inr (3, [.inr false, .inr false, .inl 64]))) := by decide +kernel
def QL29 : List LC := [.inr (.inr (7, [.inl 1, .inl 7, .inl 13, .inr false, .inl 16, .inl 23, .inl 29, .inl 41, .inr false, .inr true, .inl 53, .inl 55, .inl 56])), .inr (.inr (2, [.inr false, .inl 2, .inl 3, .inl 4, .inl 5, .inl 6, .inr false])), .inl (false, 84), .inl (false, 48), .inl (false, 6), .inl (false, 16), .inl (false, 48), .inr (.inr (2, [.inr false, .inl 8, .inl 9, .inl 10, .inl 11, .inl 12, .inr false])), .inl (false, 84), .inl (false, 48), .inl (false, 6), .inl (false, 16), .inl (false, 48), .inr (.inr (1, [.inr false, .inl 14, .inl 15])), .inl (false, 1440), .inl (false, 17), .inr (.inr (0, [.inr false, .inr false, .inl 17, .inl 18, .inl 19, .inl 20, .inl 21, .inl 22])), .inl (false, 48), .inl (false, 48), .inl (false, 48), .inl (false, 48), .inl (true, 48), .inl (false, 48), .inr (.inr (5, [.inr false, .inl 24, .inl 25, .inl 26, .inl 27, .inl 28])), .inl (true, 1296), .inl (false, 4), .inl (false, 4), .inl (false, 48), .inl (true, 52), .inr (.inr (6, [.inl 30, .inl 31, .inl 32, .inl 33, .inl 34, .inl 35, .inl 36, .inl 37, .inl 38, .inr false])), .inl (false, 16), .inl (false, 16), .inl (false, 16), .inl (false, 16), .inl (false, 16), .inl (false, 16), .inl (false, 16), .inl (false, 256), .inr (.inr (1, [.inr false, .inl 39, .inl 40])), .inl (false, 1440), .inl (false, 17), .inr (.inr (6, [.inl 42, .inl 43, .inl 44, .inl 45, .inl 46, .inl 47, .inl 48, .inl 49, .inl 50, .inr false])), .inl (false, 16), .inl (false, 16), .inl (false, 16), .inl (false, 16), .inl (false, 16), .inl (false, 16), .inl (false, 16), .inl (false, 256), .inr (.inr (1, [.inr false, .inl 51, .inl 52])), .inl (false, 1440), .inl (false, 17), .inr (.inr (4, [.inl 54, .inr false])), .inl (false, 120), .inr (.inl (4, [57, 59, 61, 63])), .inl (false, 8), .inr (.inr (3, [.inr false, .inr false, .inl 58])), .inl (true, 60), .inr (.inr (3, [.inr false, .inr false, .inl 60])), .inl (true, 60), .inr (.inr (3, [.inr false, .inr false, .inl 62])), .inl (true, 60), .inr (.inr (3, [.inr false, .inr false, .inl 64])), .inl (true, 60)]
theorem QL29_low : allLow QL29 = true := by decide +kernel
theorem QL29_len : QL29.length = 65 := by decide +kernel
theorem QL29_0 : QL29[0]? = some (.inr (.inr (7, [.inl 1, .inl 7, .inl 13, .inr false, .inl 16, .inl 23, .inl 29, .inl 41, .inr false, .inr true, .inl 53, .inl 55, .inl 56]))) := by decide +kernel
theorem LX_is : QL29 = LX := by decide +kernel
def PX7 (u : St) : Prop := (PX2 (fun k => u (1 + k))) ∧ (PX2 (fun k => u (7 + k))) ∧ (PX1 (fun k => u (13 + k))) ∧ (PX0 (fun k => u (16 + k))) ∧ (PX5 (fun k => u (23 + k))) ∧ (PX6 (fun k => u (29 + k))) ∧ (PX6 (fun k => u (41 + k))) ∧ (PX4 (fun k => u (53 + k))) ∧ (PX3 (fun k => u (57 + k))) ∧ (PX3 (fun k => u (59 + k))) ∧ (PX3 (fun k => u (61 + k))) ∧ (PX3 (fun k => u (63 + k))) ∧ (u 0 3 = 0) ∧ (u 0 8 = -1) ∧ (u 0 9 = 0) ∧ (∀ i, u 56 i = 0)
set_option maxHeartbeats 2000000 in
set_option maxRecDepth 100000 in
theorem c_Pillow_init {aK aV : Nat → Nat} {fq B0 : Nat} (l : Launch) (G : GT) (h0 sz : Nat) (hB0 : B0 ≤ h0) : Met l yX7_init wsX7_init (rmc 5 108 64 7646) (Kp vwCl G (.inr (.inr (7, [.inl 0, .inl 0, .inl 0, .inr false, .inl 0, .inl 0, .inl 0, .inl 0, .inr false, .inr true, .inl 0, .inl 0, .inl 0]))) (ZX7 aK aV fq B0) h0 sz) (Kq vwCl G LX PX7 h0 sz) 64 7646 (Af h0 sz) := by
  refine x_metc (own := RX7) (by decide) rfl rfl rfl (by decide) (by decide +kernel) ?_
  intro p e s m args below meth c R QQ A X hin2 hR hA hA2 hZ hret ad0 ls he0 hl hw
  obtain ⟨⟨hX, hAO⟩, hN1, hN2, hN3, hN4⟩ := hZ
  have hAB : ∀ q, A q → B0 ≤ q := fun q h => by
    rcases hA2 q h with z | z
    · rw [z]; exact hB0
    · exact Nat.le_trans hX.2 z
  obtain ⟨H, hH⟩ : ∃ z, z = s.heap := ⟨_, rfl⟩
  obtain ⟨locs, hlo⟩ : ∃ z : List Loc, z = [] := ⟨_, rfl⟩
  rw [← hH, ← hlo]
  obtain ⟨σ0, hs0⟩ : ∃ z : St, z = fun _ _ => 0 := ⟨_, rfl⟩
  replace hw : Wy vwCl G QL1 ad0 A s H locs σ0 := by rw [hH, hlo, hs0]; exact hw
  clear hH hlo
  refine x_aload_n X dX7_init_0 rfl (lv_at hl 0 rfl) ?_
  refine x_obj X hl.1 kX7_init_0 kX7_init_1 kX7_init_2 (x_fr hR.1.1 rfl) (x_fr hR.1.2 rfl) dX7_init_1 ?_
  refine x_aload_n X dX7_init_4 rfl (lv_at hl 0 rfl) ?_
  refine x_newo X hw hA QL1_low [.inr false, .inl 0, .inl 0, .inl 0, .inl 0, .inl 0, .inr false] cX2 kX7_init_3 tyX2 tyX2_ok kX7_init_4 kX7_init_5 kX7_init_6 (by decide) fitsX2 (x_fr hR.2.1 rfl) (x_fr hR.2.2 rfl) dX7_init_5 (fun ad1 H e1 hw => ?_)
  have hq1 : QL1.length = 1 := QL1_len
  rw [hq1]
  rw [hq1] at hw
  rw [← e1 0 (by rw [QL1_len]; decide)] at hl
  rw [← e1 0 (by rw [QL1_len]; decide)]
  replace he0 : ad1 0 = h0 := (e1 0 (by rw [QL1_len]; decide)).trans he0
  obtain ⟨σ1, hs1⟩ : ∃ z, z = sf σ0 1 (fun _ => 0) := ⟨_, rfl⟩
  replace hw : Wy vwCl G (QL1 ++ [.inr (.inr (2, [.inr false, .inl 0, .inl 0, .inl 0, .inl 0, .inl 0, .inr false]))]) ad1 A s H locs σ1 := by rw [hs1]; exact hw
  show W p l e R s m args below meth c H locs 1 7 QQ (F0 m 8 ls [.ref (ad1 1), .ref (ad1 0)])
  refine x_dup X dX7_init_8 rfl ?_
  refine x_ctor (L := QL1) (M := LX2) X 1 QL1_len hw hA QL1_low (by decide) (by rw [hs1]; exact sf_at _ _ _) (fun sz => c_Plan_init l G _ sz (hAB _ (hw.2.1.2 _ ⟨1, by rw [List.length_append, QL1_len]; decide, rfl⟩))) (cwI 0 X.2.2.2.2 ggX7_init_X2_init rfl rfl rfl (X.2.2.2.2 _ kX7_init_6) (X.2.2.2.2 _ kX7_init_7) (X.2.2.2.2 _ kX7_init_8) rfl (by decide +kernel) ⟨x_fr hR.1.1 rfl, x_fr hR.1.2 rfl⟩) SX.bl (fun U hU hW => hX.to hAB hw.2.2.2 hU hW) hl.1 (Nat.le_of_ble_eq_true rfl) dX7_init_9 ⟨x_fr hR.2.1 rfl, x_fr hR.2.2 rfl⟩ (fun ad2 σ2 H locs e2 f2 hs2 hp2 hw => ?_)
  rw [← e2 0 (by decide)] at hl
  rw [← e2 0 (by decide)]
  rw [← f2]
  replace he0 : ad2 0 = h0 := (e2 0 (by decide)).trans he0
  replace hw : Wy vwCl G QL2 ad2 A s H locs σ2 := hw.eqL (by decide +kernel)
  show W p l e R s m args below meth c H locs 6 209 QQ (F0 m 12 ls [.ref (ad2 1), .ref (ad2 0)])
  refine x_putr X hw (o := 0) QL2_0 cX7 0 (by decide) (by decide) 0 kX7_init_9 kX7_init_10 tyX7 tyX7_ok nmX7 rfl hin2 rfl (fun _ => rfl) (fun _ => rfl) dX7_init_12 (fun H locs hw => ?_)
  replace hw : Wy vwCl G QL3 ad2 A s H locs σ2 := hw.eqL (by decide +kernel)
  refine x_aload_n X dX7_init_15 rfl (lv_at hl 0 rfl) ?_
  refine x_newo X hw hA QL3_low [.inr false, .inl 0, .inl 0, .inl 0, .inl 0, .inl 0, .inr false] cX2 kX7_init_3 tyX2 tyX2_ok kX7_init_4 kX7_init_5 kX7_init_6 (by decide) fitsX2 (x_fr hR.2.1 rfl) (x_fr hR.2.2 rfl) dX7_init_16 (fun ad3 H e3 hw => ?_)
  have hq3 : QL3.length = 7 := QL3_len
  rw [hq3]
  rw [hq3] at hw
  rw [← e3 0 (by rw [QL3_len]; decide)] at hl
  rw [← e3 0 (by rw [QL3_len]; decide)]
  replace he0 : ad3 0 = h0 := (e3 0 (by rw [QL3_len]; decide)).trans he0
  obtain ⟨σ3, hs3⟩ : ∃ z, z = sf σ2 7 (fun _ => 0) := ⟨_, rfl⟩
  replace hw : Wy vwCl G (QL3 ++ [.inr (.inr (2, [.inr false, .inl 0, .inl 0, .inl 0, .inl 0, .inl 0, .inr false]))]) ad3 A s H locs σ3 := by rw [hs3]; exact hw
  show W p l e R s m args below meth c H locs 7 216 QQ (F0 m 19 ls [.ref (ad3 7), .ref (ad3 0)])
  refine x_dup X dX7_init_19 rfl ?_
  refine x_ctor (L := QL3) (M := LX2) X 7 QL3_len hw hA QL3_low (by decide) (by rw [hs3]; exact sf_at _ _ _) (fun sz => c_Plan_init l G _ sz (hAB _ (hw.2.1.2 _ ⟨7, by rw [List.length_append, QL3_len]; decide, rfl⟩))) (cwI 0 X.2.2.2.2 ggX7_init_X2_init rfl rfl rfl (X.2.2.2.2 _ kX7_init_6) (X.2.2.2.2 _ kX7_init_7) (X.2.2.2.2 _ kX7_init_8) rfl (by decide +kernel) ⟨x_fr hR.1.1 rfl, x_fr hR.1.2 rfl⟩) SX.bl (fun U hU hW => hX.to hAB hw.2.2.2 hU hW) hl.1 (Nat.le_of_ble_eq_true rfl) dX7_init_20 ⟨x_fr hR.2.1 rfl, x_fr hR.2.2 rfl⟩ (fun ad4 σ4 H locs e4 f4 hs4 hp4 hw => ?_)
  rw [← e4 0 (by decide)] at hl
  rw [← e4 0 (by decide)]
  rw [← f4]
  replace he0 : ad4 0 = h0 := (e4 0 (by decide)).trans he0
  replace hw : Wy vwCl G QL4 ad4 A s H locs σ4 := hw.eqL (by decide +kernel)
  show W p l e R s m args below meth c H locs 12 418 QQ (F0 m 23 ls [.ref (ad4 7), .ref (ad4 0)])
  refine x_putr X hw (o := 0) QL4_0 cX7 1 (by decide) (by decide) 6 kX7_init_9 kX7_init_11 tyX7 tyX7_ok nmX7 rfl hin2 rfl (fun _ => rfl) (fun _ => rfl) dX7_init_23 (fun H locs hw => ?_)
  replace hw : Wy vwCl G QL5 ad4 A s H locs σ4 := hw.eqL (by decide +kernel)
  refine x_aload_n X dX7_init_26 rfl (lv_at hl 0 rfl) ?_
  refine x_newo X hw hA QL5_low [.inr false, .inl 0, .inl 0] cX1 kX7_init_12 tyX1 tyX1_ok kX7_init_13 kX7_init_14 kX7_init_15 (by decide) fitsX1 (x_fr hR.2.1 rfl) (x_fr hR.2.2 rfl) dX7_init_27 (fun ad5 H e5 hw => ?_)
  have hq5 : QL5.length = 13 := QL5_len
  rw [hq5]
  rw [hq5] at hw
  rw [← e5 0 (by rw [QL5_len]; decide)] at hl
  rw [← e5 0 (by rw [QL5_len]; decide)]
  replace he0 : ad5 0 = h0 := (e5 0 (by rw [QL5_len]; decide)).trans he0
  obtain ⟨σ5, hs5⟩ : ∃ z, z = sf σ4 13 (fun _ => 0) := ⟨_, rfl⟩
  replace hw : Wy vwCl G (QL5 ++ [.inr (.inr (1, [.inr false, .inl 0, .inl 0]))]) ad5 A s H locs σ5 := by rw [hs5]; exact hw
  show W p l e R s m args below meth c H locs 13 421 QQ (F0 m 30 ls [.ref (ad5 13), .ref (ad5 0)])
  refine x_dup X dX7_init_30 rfl ?_
  refine x_ctor (L := QL5) (M := LX1) X 13 QL5_len hw hA QL5_low (by decide) (by rw [hs5]; exact sf_at _ _ _) (fun sz => c_Heap_init l G _ sz) (cwI 0 X.2.2.2.2 ggX7_init_X1_init rfl rfl rfl (X.2.2.2.2 _ kX7_init_15) (X.2.2.2.2 _ kX7_init_16) (X.2.2.2.2 _ kX7_init_17) rfl (by decide +kernel) ⟨x_fr hR.1.1 rfl, x_fr hR.1.2 rfl⟩) (fun _ _ _ _ _ => trivial) (fun _ _ _ => trivial) hl.1 (Nat.le_of_ble_eq_true rfl) dX7_init_31 ⟨x_fr hR.2.1 rfl, x_fr hR.2.2 rfl⟩ (fun ad6 σ6 H locs e6 f6 hs6 hp6 hw => ?_)
  rw [← e6 0 (by decide)] at hl
  rw [← e6 0 (by decide)]
  rw [← f6]
  replace he0 : ad6 0 = h0 := (e6 0 (by decide)).trans he0
  replace hw : Wy vwCl G QL6 ad6 A s H locs σ6 := hw.eqL (by decide +kernel)
  show W p l e R s m args below meth c H locs 15 1878 QQ (F0 m 34 ls [.ref (ad6 13), .ref (ad6 0)])
  refine x_putr X hw (o := 0) QL6_0 cX7 2 (by decide) (by decide) 12 kX7_init_9 kX7_init_18 tyX7 tyX7_ok nmX7 rfl hin2 rfl (fun _ => rfl) (fun _ => rfl) dX7_init_34 (fun H locs hw => ?_)
  replace hw : Wy vwCl G QL7 ad6 A s H locs σ6 := hw.eqL (by decide +kernel)
  refine x_aload_n X dX7_init_37 rfl (lv_at hl 0 rfl) ?_
  refine x_iconst X dX7_init_38 ?_
  refine x_puti X hw (o := 0) QL7_0 cX7 3 (by decide) rfl kX7_init_9 kX7_init_19 tyX7 tyX7_ok nmX7 rfl rfl rfl dX7_init_39 (fun H locs σ7 hs7 hw => ?_)
  refine x_aload_n X dX7_init_42 rfl (lv_at hl 0 rfl) ?_
  refine x_newo X hw hA QL7_low [.inr false, .inr false, .inl 0, .inl 0, .inl 0, .inl 0, .inl 0, .inl 0] cX0 kX7_init_20 tyX0 tyX0_ok kX7_init_21 kX7_init_22 kX7_init_23 (by decide) fitsX0 (x_fr hR.2.1 rfl) (x_fr hR.2.2 rfl) dX7_init_43 (fun ad8 H e8 hw => ?_)
  have hq8 : QL7.length = 16 := QL7_len
  rw [hq8]
  rw [hq8] at hw
  rw [← e8 0 (by rw [QL7_len]; decide)] at hl
  rw [← e8 0 (by rw [QL7_len]; decide)]
  replace he0 : ad8 0 = h0 := (e8 0 (by rw [QL7_len]; decide)).trans he0
  obtain ⟨σ8, hs8⟩ : ∃ z, z = sf σ7 16 (fun _ => 0) := ⟨_, rfl⟩
  replace hw : Wy vwCl G (QL7 ++ [.inr (.inr (0, [.inr false, .inr false, .inl 0, .inl 0, .inl 0, .inl 0, .inl 0, .inl 0]))]) ad8 A s H locs σ8 := by rw [hs8]; exact hw
  show W p l e R s m args below meth c H locs 16 1886 QQ (F0 m 46 ls [.ref (ad8 16), .ref (ad8 0)])
  refine x_dup X dX7_init_46 rfl ?_
  refine x_ctorN (host := "LacePillow") (L := QL7) (M := LX0) X 16 QL7_len hw hA QL7_low (by decide) (by rw [hs8]; exact sf_at _ _ _) (fun sz => c_Ground_init l G _ sz) ⟨va_cnB 0 X.2.2.2.2 ggX7_init_X0_init rfl rfl rfl hN1 (X.2.2.2.2 _ kX7_init_23) (by decide +kernel) ⟨x_fr hR.1.1 rfl, x_fr hR.1.2 rfl⟩, rfl, X.2.2.2.2 _ kX7_init_24⟩ (fun _ _ _ _ _ => trivial) (fun _ _ _ => trivial) hl.1 (Nat.le_of_ble_eq_true rfl) dX7_init_47 ⟨x_fr hR.2.1 rfl, x_fr hR.2.2 rfl⟩ (fun ad9 σ9 H locs e9 f9 hs9 hp9 hw => ?_)
  rw [← e9 0 (by decide)] at hl
  rw [← e9 0 (by decide)]
  rw [← f9]
  replace he0 : ad9 0 = h0 := (e9 0 (by decide)).trans he0
  replace hw : Wy vwCl G QL8 ad9 A s H locs σ9 := hw.eqL (by decide +kernel)
  show W p l e R s m args below meth c H locs 22 2174 QQ (F0 m 50 ls [.ref (ad9 16), .ref (ad9 0)])
  refine x_putr X hw (o := 0) QL8_0 cX7 4 (by decide) (by decide) 15 kX7_init_9 kX7_init_25 tyX7 tyX7_ok nmX7 rfl hin2 rfl (fun _ => rfl) (fun _ => rfl) dX7_init_50 (fun H locs hw => ?_)
  replace hw : Wy vwCl G QL9 ad9 A s H locs σ9 := hw.eqL (by decide +kernel)
  refine x_aload_n X dX7_init_53 rfl (lv_at hl 0 rfl) ?_
  refine x_newo X hw hA QL9_low [.inr false, .inl 0, .inl 0, .inl 0, .inl 0, .inl 0] cX5 kX7_init_26 tyX5 tyX5_ok kX7_init_27 kX7_init_28 kX7_init_29 (by decide) fitsX5 (x_fr hR.2.1 rfl) (x_fr hR.2.2 rfl) dX7_init_54 (fun ad10 H e10 hw => ?_)
  have hq10 : QL9.length = 23 := QL9_len
  rw [hq10]
  rw [hq10] at hw
  rw [← e10 0 (by rw [QL9_len]; decide)] at hl
  rw [← e10 0 (by rw [QL9_len]; decide)]
  replace he0 : ad10 0 = h0 := (e10 0 (by rw [QL9_len]; decide)).trans he0
  obtain ⟨σ10, hs10⟩ : ∃ z, z = sf σ9 23 (fun _ => 0) := ⟨_, rfl⟩
  replace hw : Wy vwCl G (QL9 ++ [.inr (.inr (5, [.inr false, .inl 0, .inl 0, .inl 0, .inl 0, .inl 0]))]) ad10 A s H locs σ10 := by rw [hs10]; exact hw
  show W p l e R s m args below meth c H locs 23 2180 QQ (F0 m 57 ls [.ref (ad10 23), .ref (ad10 0)])
  refine x_dup X dX7_init_57 rfl ?_
  refine x_ctorN (host := "LacePillow") (L := QL9) (M := LX5) X 23 QL9_len hw hA QL9_low (by decide) (by rw [hs10]; exact sf_at _ _ _) (fun sz => c_Ways_init l G _ sz) ⟨va_cnB 0 X.2.2.2.2 ggX7_init_X5_init rfl rfl rfl hN2 (X.2.2.2.2 _ kX7_init_29) (by decide +kernel) ⟨x_fr hR.1.1 rfl, x_fr hR.1.2 rfl⟩, rfl, X.2.2.2.2 _ kX7_init_30⟩ (fun _ _ _ _ _ => trivial) (fun _ _ _ => trivial) hl.1 (Nat.le_of_ble_eq_true rfl) dX7_init_58 ⟨x_fr hR.2.1 rfl, x_fr hR.2.2 rfl⟩ (fun ad11 σ11 H locs e11 f11 hs11 hp11 hw => ?_)
  rw [← e11 0 (by decide)] at hl
  rw [← e11 0 (by decide)]
  rw [← f11]
  replace he0 : ad11 0 = h0 := (e11 0 (by decide)).trans he0
  replace hw : Wy vwCl G QL10 ad11 A s H locs σ11 := hw.eqL (by decide +kernel)
  show W p l e R s m args below meth c H locs 28 3584 QQ (F0 m 61 ls [.ref (ad11 23), .ref (ad11 0)])
  refine x_putr X hw (o := 0) QL10_0 cX7 5 (by decide) (by decide) 22 kX7_init_9 kX7_init_31 tyX7 tyX7_ok nmX7 rfl hin2 rfl (fun _ => rfl) (fun _ => rfl) dX7_init_61 (fun H locs hw => ?_)
  replace hw : Wy vwCl G QL11 ad11 A s H locs σ11 := hw.eqL (by decide +kernel)
  refine x_aload_n X dX7_init_64 rfl (lv_at hl 0 rfl) ?_
  refine x_newo X hw hA QL11_low [.inl 0, .inl 0, .inl 0, .inl 0, .inl 0, .inl 0, .inl 0, .inl 0, .inl 0, .inr false] cX6 kX7_init_32 tyX6 tyX6_ok kX7_init_33 kX7_init_34 kX7_init_35 (by decide) fitsX6 (x_fr hR.2.1 rfl) (x_fr hR.2.2 rfl) dX7_init_65 (fun ad12 H e12 hw => ?_)
  have hq12 : QL11.length = 29 := QL11_len
  rw [hq12]
  rw [hq12] at hw
  rw [← e12 0 (by rw [QL11_len]; decide)] at hl
  rw [← e12 0 (by rw [QL11_len]; decide)]
  replace he0 : ad12 0 = h0 := (e12 0 (by rw [QL11_len]; decide)).trans he0
  obtain ⟨σ12, hs12⟩ : ∃ z, z = sf σ11 29 (fun _ => 0) := ⟨_, rfl⟩
  replace hw : Wy vwCl G (QL11 ++ [.inr (.inr (6, [.inl 0, .inl 0, .inl 0, .inl 0, .inl 0, .inl 0, .inl 0, .inl 0, .inl 0, .inr false]))]) ad12 A s H locs σ12 := by rw [hs12]; exact hw
  show W p l e R s m args below meth c H locs 29 3594 QQ (F0 m 68 ls [.ref (ad12 29), .ref (ad12 0)])
  refine x_dup X dX7_init_68 rfl ?_
  refine x_ctor (L := QL11) (M := LX6) X 29 QL11_len hw hA QL11_low (by decide) (by rw [hs12]; exact sf_at _ _ _) (fun sz => c_Weave_init l G _ sz) (cwI 0 X.2.2.2.2 ggX7_init_X6_init rfl rfl rfl (X.2.2.2.2 _ kX7_init_35) (X.2.2.2.2 _ kX7_init_36) (X.2.2.2.2 _ kX7_init_37) rfl (by decide +kernel) ⟨x_fr hR.1.1 rfl, x_fr hR.1.2 rfl⟩) (fun _ _ _ _ _ => trivial) (fun _ _ _ => trivial) hl.1 (Nat.le_of_ble_eq_true rfl) dX7_init_69 ⟨x_fr hR.2.1 rfl, x_fr hR.2.2 rfl⟩ (fun ad13 σ13 H locs e13 f13 hs13 hp13 hw => ?_)
  rw [← e13 0 (by decide)] at hl
  rw [← e13 0 (by decide)]
  rw [← f13]
  replace he0 : ad13 0 = h0 := (e13 0 (by decide)).trans he0
  replace hw : Wy vwCl G QL12 ad13 A s H locs σ13 := hw.eqL (by decide +kernel)
  show W p l e R s m args below meth c H locs 40 5422 QQ (F0 m 72 ls [.ref (ad13 29), .ref (ad13 0)])
  refine x_putr X hw (o := 0) QL12_0 cX7 6 (by decide) (by decide) 28 kX7_init_9 kX7_init_38 tyX7 tyX7_ok nmX7 rfl hin2 rfl (fun _ => rfl) (fun _ => rfl) dX7_init_72 (fun H locs hw => ?_)
  replace hw : Wy vwCl G QL13 ad13 A s H locs σ13 := hw.eqL (by decide +kernel)
  refine x_aload_n X dX7_init_75 rfl (lv_at hl 0 rfl) ?_
  refine x_newo X hw hA QL13_low [.inl 0, .inl 0, .inl 0, .inl 0, .inl 0, .inl 0, .inl 0, .inl 0, .inl 0, .inr false] cX6 kX7_init_32 tyX6 tyX6_ok kX7_init_33 kX7_init_34 kX7_init_35 (by decide) fitsX6 (x_fr hR.2.1 rfl) (x_fr hR.2.2 rfl) dX7_init_76 (fun ad14 H e14 hw => ?_)
  have hq14 : QL13.length = 41 := QL13_len
  rw [hq14]
  rw [hq14] at hw
  rw [← e14 0 (by rw [QL13_len]; decide)] at hl
  rw [← e14 0 (by rw [QL13_len]; decide)]
  replace he0 : ad14 0 = h0 := (e14 0 (by rw [QL13_len]; decide)).trans he0
  obtain ⟨σ14, hs14⟩ : ∃ z, z = sf σ13 41 (fun _ => 0) := ⟨_, rfl⟩
  replace hw : Wy vwCl G (QL13 ++ [.inr (.inr (6, [.inl 0, .inl 0, .inl 0, .inl 0, .inl 0, .inl 0, .inl 0, .inl 0, .inl 0, .inr false]))]) ad14 A s H locs σ14 := by rw [hs14]; exact hw
  show W p l e R s m args below meth c H locs 41 5432 QQ (F0 m 79 ls [.ref (ad14 41), .ref (ad14 0)])
  refine x_dup X dX7_init_79 rfl ?_
  refine x_ctor (L := QL13) (M := LX6) X 41 QL13_len hw hA QL13_low (by decide) (by rw [hs14]; exact sf_at _ _ _) (fun sz => c_Weave_init l G _ sz) (cwI 0 X.2.2.2.2 ggX7_init_X6_init rfl rfl rfl (X.2.2.2.2 _ kX7_init_35) (X.2.2.2.2 _ kX7_init_36) (X.2.2.2.2 _ kX7_init_37) rfl (by decide +kernel) ⟨x_fr hR.1.1 rfl, x_fr hR.1.2 rfl⟩) (fun _ _ _ _ _ => trivial) (fun _ _ _ => trivial) hl.1 (Nat.le_of_ble_eq_true rfl) dX7_init_80 ⟨x_fr hR.2.1 rfl, x_fr hR.2.2 rfl⟩ (fun ad15 σ15 H locs e15 f15 hs15 hp15 hw => ?_)
  rw [← e15 0 (by decide)] at hl
  rw [← e15 0 (by decide)]
  rw [← f15]
  replace he0 : ad15 0 = h0 := (e15 0 (by decide)).trans he0
  replace hw : Wy vwCl G QL14 ad15 A s H locs σ15 := hw.eqL (by decide +kernel)
  show W p l e R s m args below meth c H locs 52 7260 QQ (F0 m 83 ls [.ref (ad15 41), .ref (ad15 0)])
  refine x_putr X hw (o := 0) QL14_0 cX7 7 (by decide) (by decide) 40 kX7_init_9 kX7_init_39 tyX7 tyX7_ok nmX7 rfl hin2 rfl (fun _ => rfl) (fun _ => rfl) dX7_init_83 (fun H locs hw => ?_)
  replace hw : Wy vwCl G QL15 ad15 A s H locs σ15 := hw.eqL (by decide +kernel)
  refine x_aload_n X dX7_init_86 rfl (lv_at hl 0 rfl) ?_
  refine x_iconst X dX7_init_87 ?_
  refine x_puti X hw (o := 0) QL15_0 cX7 8 (by decide) rfl kX7_init_9 kX7_init_40 tyX7 tyX7_ok nmX7 rfl rfl rfl dX7_init_88 (fun H locs σ16 hs16 hw => ?_)
  refine x_aload_n X dX7_init_91 rfl (lv_at hl 0 rfl) ?_
  refine x_lconst X 0 dX7_init_92 (by decide) ?_
  refine x_putl X hw (o := 0) QL15_0 cX7 9 (by decide) rfl kX7_init_9 kX7_init_41 tyX7 tyX7_ok nmX7 rfl rfl rfl dX7_init_93 (fun H locs σ17 hs17 hw => ?_)
  refine x_aload_n X dX7_init_96 rfl (lv_at hl 0 rfl) ?_
  refine x_newo X hw hA QL15_low [.inl 0, .inr false] cX4 kX7_init_42 tyX4 tyX4_ok kX7_init_43 kX7_init_44 kX7_init_45 (by decide) fitsX4 (x_fr hR.2.1 rfl) (x_fr hR.2.2 rfl) dX7_init_97 (fun ad18 H e18 hw => ?_)
  have hq18 : QL15.length = 53 := QL15_len
  rw [hq18]
  rw [hq18] at hw
  rw [← e18 0 (by rw [QL15_len]; decide)] at hl
  rw [← e18 0 (by rw [QL15_len]; decide)]
  replace he0 : ad18 0 = h0 := (e18 0 (by rw [QL15_len]; decide)).trans he0
  obtain ⟨σ18, hs18⟩ : ∃ z, z = sf σ17 53 (fun _ => 0) := ⟨_, rfl⟩
  replace hw : Wy vwCl G (QL15 ++ [.inr (.inr (4, [.inl 0, .inr false]))]) ad18 A s H locs σ18 := by rw [hs18]; exact hw
  show W p l e R s m args below meth c H locs 53 7262 QQ (F0 m 100 ls [.ref (ad18 53), .ref (ad18 0)])
  refine x_dup X dX7_init_100 rfl ?_
  refine x_ctorN (host := "LacePillow") (L := QL15) (M := LX4) X 53 QL15_len hw hA QL15_low (by decide) (by rw [hs18]; exact sf_at _ _ _) (fun sz => c_Tape_init l G _ sz) ⟨va_cnB 0 X.2.2.2.2 ggX7_init_X4_init rfl rfl rfl hN3 (X.2.2.2.2 _ kX7_init_45) (by decide +kernel) ⟨x_fr hR.1.1 rfl, x_fr hR.1.2 rfl⟩, rfl, X.2.2.2.2 _ kX7_init_46⟩ (fun _ _ _ _ _ => trivial) (fun _ _ _ => trivial) hl.1 (Nat.le_of_ble_eq_true rfl) dX7_init_101 ⟨x_fr hR.2.1 rfl, x_fr hR.2.2 rfl⟩ (fun ad19 σ19 H locs e19 f19 hs19 hp19 hw => ?_)
  rw [← e19 0 (by decide)] at hl
  rw [← e19 0 (by decide)]
  rw [← f19]
  replace he0 : ad19 0 = h0 := (e19 0 (by decide)).trans he0
  replace hw : Wy vwCl G QL16 ad19 A s H locs σ19 := hw.eqL (by decide +kernel)
  show W p l e R s m args below meth c H locs 54 7382 QQ (F0 m 104 ls [.ref (ad19 53), .ref (ad19 0)])
  refine x_putr X hw (o := 0) QL16_0 cX7 10 (by decide) (by decide) 52 kX7_init_9 kX7_init_47 tyX7 tyX7_ok nmX7 rfl hin2 rfl (fun _ => rfl) (fun _ => rfl) dX7_init_104 (fun H locs hw => ?_)
  replace hw : Wy vwCl G QL17 ad19 A s H locs σ19 := hw.eqL (by decide +kernel)
  refine x_aload_n X dX7_init_107 rfl (lv_at hl 0 rfl) ?_
  refine x_iconst X dX7_init_108 ?_
  refine x_newq X hw hA QL17_low kX7_init_48 hAO 4 (by decide +kernel) rfl (x_fr hR.2.1 rfl) (x_fr hR.2.2 rfl) dX7_init_109 (fun ad20 H e20 hw => ?_)
  have hq20 : QL17.length = 55 := QL17_len
  rw [hq20]
  rw [hq20] at hw
  rw [← e20 0 (by rw [QL17_len]; decide)] at hl
  rw [← e20 0 (by rw [QL17_len]; decide)]
  replace he0 : ad20 0 = h0 := (e20 0 (by rw [QL17_len]; decide)).trans he0
  obtain ⟨σ20, hs20⟩ : ∃ z, z = sf σ19 55 (fun _ => 0) := ⟨_, rfl⟩
  replace hw : Wy vwCl G (QL17 ++ [.inr (.inl (4, []))]) ad20 A s H locs σ20 := by rw [hs20]; exact hw
  replace hw : Wy vwCl G QL18 ad20 A s H locs σ20 := hw.eqL (by decide +kernel)
  show W p l e R s m args below meth c H locs 55 7386 QQ (F0 m 112 ls [.ref (ad20 55), .ref (ad20 0)])
  refine x_putr X hw (o := 0) QL18_0 cX7 11 (by decide) (by decide) 54 kX7_init_9 kX7_init_49 tyX7 tyX7_ok nmX7 rfl hin2 rfl (fun _ => rfl) (fun _ => rfl) dX7_init_112 (fun H locs hw => ?_)
  replace hw : Wy vwCl G QL19 ad20 A s H locs σ20 := hw.eqL (by decide +kernel)
  refine x_aload_n X dX7_init_115 rfl (lv_at hl 0 rfl) ?_
  refine x_bipush X dX7_init_116 (by decide) ?_
  refine x_newi X hw hA QL19_low kX7_init_50 8 (by decide +kernel) rfl (x_fr hR.2.1 rfl) (x_fr hR.2.2 rfl) dX7_init_118 (fun ad21 H e21 hw => ?_)
  have hq21 : QL19.length = 56 := QL19_len
  rw [hq21]
  rw [hq21] at hw
  rw [← e21 0 (by rw [QL19_len]; decide)] at hl
  rw [← e21 0 (by rw [QL19_len]; decide)]
  replace he0 : ad21 0 = h0 := (e21 0 (by rw [QL19_len]; decide)).trans he0
  obtain ⟨σ21, hs21⟩ : ∃ z, z = sf σ20 56 (fun _ => 0) := ⟨_, rfl⟩
  replace hw : Wy vwCl G (QL19 ++ [.inl (false, 8)]) ad21 A s H locs σ21 := by rw [hs21]; exact hw
  replace hw : Wy vwCl G QL20 ad21 A s H locs σ21 := hw.eqL (by decide +kernel)
  show W p l e R s m args below meth c H locs 56 7394 QQ (F0 m 120 ls [.ref (ad21 56), .ref (ad21 0)])
  refine x_putr X hw (o := 0) QL20_0 cX7 12 (by decide) (by decide) 55 kX7_init_9 kX7_init_51 tyX7 tyX7_ok nmX7 rfl hin2 rfl (fun _ => rfl) (fun _ => rfl) dX7_init_120 (fun H locs hw => ?_)
  replace hw : Wy vwCl G QL21 ad21 A s H locs σ21 := hw.eqL (by decide +kernel)
  refine x_iconst X dX7_init_123 ?_
  refine x_istore_n X [(1, iV (0)), (0, .ref (ad21 0))] dX7_init_124 rfl hl (by decide) rfl (fun ls hl => ?_)
  refine x_iload_n X dX7_init_125 rfl (lv_at hl 0 rfl) ?_
  refine x_iconst X dX7_init_126 ?_
  refine x_icmp_ge X rfl rfl 149 dX7_init_127 (by decide) (fun hc => absurd hc (by decide +kernel)) (fun _ => ?_)
  refine x_aload_n X dX7_init_130 rfl (lv_at hl 1 rfl) ?_
  refine x_getr X hw (o := 0) QL21_0 cX7 11 (by decide) (k0 := 54) rfl kX7_init_9 kX7_init_49 dX7_init_131 ?_
  refine x_iload_n X dX7_init_134 rfl (lv_at hl 0 rfl) ?_
  refine x_newo X hw hA QL21_low [.inr false, .inr false, .inl 0] cX3 kX7_init_52 tyX3 tyX3_ok kX7_init_48 kX7_init_53 kX7_init_54 (by decide) fitsX3 (x_fr hR.2.1 rfl) (x_fr hR.2.2 rfl) dX7_init_135 (fun ad22 H e22 hw => ?_)
  have hq22 : QL21.length = 57 := QL21_len
  rw [hq22]
  rw [hq22] at hw
  rw [← e22 0 (by rw [QL21_len]; decide)] at hl
  rw [← e22 55 (by rw [QL21_len]; decide)]
  replace he0 : ad22 0 = h0 := (e22 0 (by rw [QL21_len]; decide)).trans he0
  obtain ⟨σ22, hs22⟩ : ∃ z, z = sf σ21 57 (fun _ => 0) := ⟨_, rfl⟩
  replace hw : Wy vwCl G (QL21 ++ [.inr (.inr (3, [.inr false, .inr false, .inl 0]))]) ad22 A s H locs σ22 := by rw [hs22]; exact hw
  show W p l e R s m args below meth c H locs 57 7397 QQ (F0 m 138 ls [.ref (ad22 57), iV (0), .ref (ad22 55)])
  refine x_dup X dX7_init_138 rfl ?_
  refine x_ctorN (host := "LacePillow") (L := QL21) (M := LX3) X 57 QL21_len hw hA QL21_low (by decide) (by rw [hs22]; exact sf_at _ _ _) (fun sz => c_Sheet_init l G _ sz) ⟨va_cnB 0 X.2.2.2.2 ggX7_init_X3_init rfl rfl rfl hN4 (X.2.2.2.2 _ kX7_init_54) (by decide +kernel) ⟨x_fr hR.1.1 rfl, x_fr hR.1.2 rfl⟩, rfl, X.2.2.2.2 _ kX7_init_55⟩ (fun _ _ _ _ _ => trivial) (fun _ _ _ => trivial) hl.1 (Nat.le_of_ble_eq_true rfl) dX7_init_139 ⟨x_fr hR.2.1 rfl, x_fr hR.2.2 rfl⟩ (fun ad23 σ23 H locs e23 f23 hs23 hp23 hw => ?_)
  rw [← e23 0 (by decide)] at hl
  rw [← e23 55 (by decide)]
  rw [← f23]
  replace he0 : ad23 0 = h0 := (e23 0 (by decide)).trans he0
  replace hw : Wy vwCl G QL22 ad23 A s H locs σ23 := hw.eqL (by decide +kernel)
  show W p l e R s m args below meth c H locs 58 7457 QQ (F0 m 142 ls [.ref (ad23 57), iV (0), .ref (ad23 55)])
  refine x_aast X hw 55 57 [] QL22_a QL22_o cX3 (by decide +kernel) (by decide) dX7_init_142 (fun H locs hw => ?_)
  replace hw : Wy vwCl G QL23 ad23 A s H locs σ23 := hw.eqL (by decide +kernel)
  refine x_iinc X (k := 0) ((0) + 1) [(1, iV ((0) + 1)), (0, .ref (ad23 0))] dX7_init_143 hl rfl rfl (by decide) rfl (fun ls hl => ?_)
  refine x_goto X 125 dX7_init_146 (by decide) ?_
  show W p l e R s m args below meth c H locs 58 7457 QQ (F0 m 125 ls [])
  refine x_iload_n X dX7_init_125 rfl (lv_at hl 0 rfl) ?_
  refine x_iconst X dX7_init_126 ?_
  refine x_icmp_ge X rfl rfl 149 dX7_init_127 (by decide) (fun hc => absurd hc (by decide +kernel)) (fun _ => ?_)
  refine x_aload_n X dX7_init_130 rfl (lv_at hl 1 rfl) ?_
  refine x_getr X hw (o := 0) QL23_0 cX7 11 (by decide) (k0 := 54) rfl kX7_init_9 kX7_init_49 dX7_init_131 ?_
  refine x_iload_n X dX7_init_134 rfl (lv_at hl 0 rfl) ?_
  refine x_newo X hw hA QL23_low [.inr false, .inr false, .inl 0] cX3 kX7_init_52 tyX3 tyX3_ok kX7_init_48 kX7_init_53 kX7_init_54 (by decide) fitsX3 (x_fr hR.2.1 rfl) (x_fr hR.2.2 rfl) dX7_init_135 (fun ad24 H e24 hw => ?_)
  have hq24 : QL23.length = 59 := QL23_len
  rw [hq24]
  rw [hq24] at hw
  rw [← e24 0 (by rw [QL23_len]; decide)] at hl
  rw [← e24 55 (by rw [QL23_len]; decide)]
  replace he0 : ad24 0 = h0 := (e24 0 (by rw [QL23_len]; decide)).trans he0
  obtain ⟨σ24, hs24⟩ : ∃ z, z = sf σ23 59 (fun _ => 0) := ⟨_, rfl⟩
  replace hw : Wy vwCl G (QL23 ++ [.inr (.inr (3, [.inr false, .inr false, .inl 0]))]) ad24 A s H locs σ24 := by rw [hs24]; exact hw
  show W p l e R s m args below meth c H locs 59 7460 QQ (F0 m 138 ls [.ref (ad24 59), iV ((0) + 1), .ref (ad24 55)])
  refine x_dup X dX7_init_138 rfl ?_
  refine x_ctorN (host := "LacePillow") (L := QL23) (M := LX3) X 59 QL23_len hw hA QL23_low (by decide) (by rw [hs24]; exact sf_at _ _ _) (fun sz => c_Sheet_init l G _ sz) ⟨va_cnB 0 X.2.2.2.2 ggX7_init_X3_init rfl rfl rfl hN4 (X.2.2.2.2 _ kX7_init_54) (by decide +kernel) ⟨x_fr hR.1.1 rfl, x_fr hR.1.2 rfl⟩, rfl, X.2.2.2.2 _ kX7_init_55⟩ (fun _ _ _ _ _ => trivial) (fun _ _ _ => trivial) hl.1 (Nat.le_of_ble_eq_true rfl) dX7_init_139 ⟨x_fr hR.2.1 rfl, x_fr hR.2.2 rfl⟩ (fun ad25 σ25 H locs e25 f25 hs25 hp25 hw => ?_)
  rw [← e25 0 (by decide)] at hl
  rw [← e25 55 (by decide)]
  rw [← f25]
  replace he0 : ad25 0 = h0 := (e25 0 (by decide)).trans he0
  replace hw : Wy vwCl G QL24 ad25 A s H locs σ25 := hw.eqL (by decide +kernel)
  show W p l e R s m args below meth c H locs 60 7520 QQ (F0 m 142 ls [.ref (ad25 59), iV ((0) + 1), .ref (ad25 55)])
  refine x_aast X hw 55 59 [57] QL24_a QL24_o cX3 (by decide +kernel) (by decide) dX7_init_142 (fun H locs hw => ?_)
  replace hw : Wy vwCl G QL25 ad25 A s H locs σ25 := hw.eqL (by decide +kernel)
  refine x_iinc X (k := 0) (((0) + 1) + 1) [(1, iV (((0) + 1) + 1)), (0, .ref (ad25 0))] dX7_init_143 hl rfl rfl (by decide) rfl (fun ls hl => ?_)
  refine x_goto X 125 dX7_init_146 (by decide) ?_
  show W p l e R s m args below meth c H locs 60 7520 QQ (F0 m 125 ls [])
  refine x_iload_n X dX7_init_125 rfl (lv_at hl 0 rfl) ?_
  refine x_iconst X dX7_init_126 ?_
  refine x_icmp_ge X rfl rfl 149 dX7_init_127 (by decide) (fun hc => absurd hc (by decide +kernel)) (fun _ => ?_)
  refine x_aload_n X dX7_init_130 rfl (lv_at hl 1 rfl) ?_
  refine x_getr X hw (o := 0) QL25_0 cX7 11 (by decide) (k0 := 54) rfl kX7_init_9 kX7_init_49 dX7_init_131 ?_
  refine x_iload_n X dX7_init_134 rfl (lv_at hl 0 rfl) ?_
  refine x_newo X hw hA QL25_low [.inr false, .inr false, .inl 0] cX3 kX7_init_52 tyX3 tyX3_ok kX7_init_48 kX7_init_53 kX7_init_54 (by decide) fitsX3 (x_fr hR.2.1 rfl) (x_fr hR.2.2 rfl) dX7_init_135 (fun ad26 H e26 hw => ?_)
  have hq26 : QL25.length = 61 := QL25_len
  rw [hq26]
  rw [hq26] at hw
  rw [← e26 0 (by rw [QL25_len]; decide)] at hl
  rw [← e26 55 (by rw [QL25_len]; decide)]
  replace he0 : ad26 0 = h0 := (e26 0 (by rw [QL25_len]; decide)).trans he0
  obtain ⟨σ26, hs26⟩ : ∃ z, z = sf σ25 61 (fun _ => 0) := ⟨_, rfl⟩
  replace hw : Wy vwCl G (QL25 ++ [.inr (.inr (3, [.inr false, .inr false, .inl 0]))]) ad26 A s H locs σ26 := by rw [hs26]; exact hw
  show W p l e R s m args below meth c H locs 61 7523 QQ (F0 m 138 ls [.ref (ad26 61), iV (((0) + 1) + 1), .ref (ad26 55)])
  refine x_dup X dX7_init_138 rfl ?_
  refine x_ctorN (host := "LacePillow") (L := QL25) (M := LX3) X 61 QL25_len hw hA QL25_low (by decide) (by rw [hs26]; exact sf_at _ _ _) (fun sz => c_Sheet_init l G _ sz) ⟨va_cnB 0 X.2.2.2.2 ggX7_init_X3_init rfl rfl rfl hN4 (X.2.2.2.2 _ kX7_init_54) (by decide +kernel) ⟨x_fr hR.1.1 rfl, x_fr hR.1.2 rfl⟩, rfl, X.2.2.2.2 _ kX7_init_55⟩ (fun _ _ _ _ _ => trivial) (fun _ _ _ => trivial) hl.1 (Nat.le_of_ble_eq_true rfl) dX7_init_139 ⟨x_fr hR.2.1 rfl, x_fr hR.2.2 rfl⟩ (fun ad27 σ27 H locs e27 f27 hs27 hp27 hw => ?_)
  rw [← e27 0 (by decide)] at hl
  rw [← e27 55 (by decide)]
  rw [← f27]
  replace he0 : ad27 0 = h0 := (e27 0 (by decide)).trans he0
  replace hw : Wy vwCl G QL26 ad27 A s H locs σ27 := hw.eqL (by decide +kernel)
  show W p l e R s m args below meth c H locs 62 7583 QQ (F0 m 142 ls [.ref (ad27 61), iV (((0) + 1) + 1), .ref (ad27 55)])
  refine x_aast X hw 55 61 [57, 59] QL26_a QL26_o cX3 (by decide +kernel) (by decide) dX7_init_142 (fun H locs hw => ?_)
  replace hw : Wy vwCl G QL27 ad27 A s H locs σ27 := hw.eqL (by decide +kernel)
  refine x_iinc X (k := 0) ((((0) + 1) + 1) + 1) [(1, iV ((((0) + 1) + 1) + 1)), (0, .ref (ad27 0))] dX7_init_143 hl rfl rfl (by decide) rfl (fun ls hl => ?_)
  refine x_goto X 125 dX7_init_146 (by decide) ?_
  show W p l e R s m args below meth c H locs 62 7583 QQ (F0 m 125 ls [])
  refine x_iload_n X dX7_init_125 rfl (lv_at hl 0 rfl) ?_
  refine x_iconst X dX7_init_126 ?_
  refine x_icmp_ge X rfl rfl 149 dX7_init_127 (by decide) (fun hc => absurd hc (by decide +kernel)) (fun _ => ?_)
  refine x_aload_n X dX7_init_130 rfl (lv_at hl 1 rfl) ?_
  refine x_getr X hw (o := 0) QL27_0 cX7 11 (by decide) (k0 := 54) rfl kX7_init_9 kX7_init_49 dX7_init_131 ?_
  refine x_iload_n X dX7_init_134 rfl (lv_at hl 0 rfl) ?_
  refine x_newo X hw hA QL27_low [.inr false, .inr false, .inl 0] cX3 kX7_init_52 tyX3 tyX3_ok kX7_init_48 kX7_init_53 kX7_init_54 (by decide) fitsX3 (x_fr hR.2.1 rfl) (x_fr hR.2.2 rfl) dX7_init_135 (fun ad28 H e28 hw => ?_)
  have hq28 : QL27.length = 63 := QL27_len
  rw [hq28]
  rw [hq28] at hw
  rw [← e28 0 (by rw [QL27_len]; decide)] at hl
  rw [← e28 55 (by rw [QL27_len]; decide)]
  replace he0 : ad28 0 = h0 := (e28 0 (by rw [QL27_len]; decide)).trans he0
  obtain ⟨σ28, hs28⟩ : ∃ z, z = sf σ27 63 (fun _ => 0) := ⟨_, rfl⟩
  replace hw : Wy vwCl G (QL27 ++ [.inr (.inr (3, [.inr false, .inr false, .inl 0]))]) ad28 A s H locs σ28 := by rw [hs28]; exact hw
  show W p l e R s m args below meth c H locs 63 7586 QQ (F0 m 138 ls [.ref (ad28 63), iV ((((0) + 1) + 1) + 1), .ref (ad28 55)])
  refine x_dup X dX7_init_138 rfl ?_
  refine x_ctorN (host := "LacePillow") (L := QL27) (M := LX3) X 63 QL27_len hw hA QL27_low (by decide) (by rw [hs28]; exact sf_at _ _ _) (fun sz => c_Sheet_init l G _ sz) ⟨va_cnB 0 X.2.2.2.2 ggX7_init_X3_init rfl rfl rfl hN4 (X.2.2.2.2 _ kX7_init_54) (by decide +kernel) ⟨x_fr hR.1.1 rfl, x_fr hR.1.2 rfl⟩, rfl, X.2.2.2.2 _ kX7_init_55⟩ (fun _ _ _ _ _ => trivial) (fun _ _ _ => trivial) hl.1 (Nat.le_of_ble_eq_true rfl) dX7_init_139 ⟨x_fr hR.2.1 rfl, x_fr hR.2.2 rfl⟩ (fun ad29 σ29 H locs e29 f29 hs29 hp29 hw => ?_)
  rw [← e29 0 (by decide)] at hl
  rw [← e29 55 (by decide)]
  rw [← f29]
  replace he0 : ad29 0 = h0 := (e29 0 (by decide)).trans he0
  replace hw : Wy vwCl G QL28 ad29 A s H locs σ29 := hw.eqL (by decide +kernel)
  show W p l e R s m args below meth c H locs 64 7646 QQ (F0 m 142 ls [.ref (ad29 63), iV ((((0) + 1) + 1) + 1), .ref (ad29 55)])
  refine x_aast X hw 55 63 [57, 59, 61] QL28_a QL28_o cX3 (by decide +kernel) (by decide) dX7_init_142 (fun H locs hw => ?_)
  replace hw : Wy vwCl G QL29 ad29 A s H locs σ29 := hw.eqL (by decide +kernel)
  refine x_iinc X (k := 0) (((((0) + 1) + 1) + 1) + 1) [(1, iV (((((0) + 1) + 1) + 1) + 1)), (0, .ref (ad29 0))] dX7_init_143 hl rfl rfl (by decide) rfl (fun ls hl => ?_)
  refine x_goto X 125 dX7_init_146 (by decide) ?_
  show W p l e R s m args below meth c H locs 64 7646 QQ (F0 m 125 ls [])
  refine x_iload_n X dX7_init_125 rfl (lv_at hl 0 rfl) ?_
  refine x_iconst X dX7_init_126 ?_
  refine x_icmp_ge X rfl rfl 149 dX7_init_127 (by decide) (fun _ => ?_) (fun hc => absurd hc (by decide +kernel))
  have t29 : stp 65 σ29 σ29 := fun _ _ _ => rfl
  have t28 : stp 63 σ28 σ29 := stp.tr (stp.c hs29 (by decide)) (t29.mo (by decide))
  have t27 : stp 63 σ27 σ29 := stp.tr (stp.f hs28 (by decide)) (t28.mo (by decide))
  have t26 : stp 61 σ26 σ29 := stp.tr (stp.c hs27 (by decide)) (t27.mo (by decide))
  have t25 : stp 61 σ25 σ29 := stp.tr (stp.f hs26 (by decide)) (t26.mo (by decide))
  have t24 : stp 59 σ24 σ29 := stp.tr (stp.c hs25 (by decide)) (t25.mo (by decide))
  have t23 : stp 59 σ23 σ29 := stp.tr (stp.f hs24 (by decide)) (t24.mo (by decide))
  have t22 : stp 57 σ22 σ29 := stp.tr (stp.c hs23 (by decide)) (t23.mo (by decide))
  have t21 : stp 57 σ21 σ29 := stp.tr (stp.f hs22 (by decide)) (t22.mo (by decide))
  have t20 : stp 56 σ20 σ29 := stp.tr (stp.f hs21 (by decide)) (t21.mo (by decide))
  have t19 : stp 55 σ19 σ29 := stp.tr (stp.f hs20 (by decide)) (t20.mo (by decide))
  have t18 : stp 53 σ18 σ29 := stp.tr (stp.c hs19 (by decide)) (t19.mo (by decide))
  have t17 : stp 53 σ17 σ29 := stp.tr (stp.f hs18 (by decide)) (t18.mo (by decide))
  have t16 : stp 53 σ16 σ29 := stp.tr (stp.s hs17) (t17.mo (by decide))
  have t15 : stp 53 σ15 σ29 := stp.tr (stp.s hs16) (t16.mo (by decide))
  have t14 : stp 41 σ14 σ29 := stp.tr (stp.c hs15 (by decide)) (t15.mo (by decide))
  have t13 : stp 41 σ13 σ29 := stp.tr (stp.f hs14 (by decide)) (t14.mo (by decide))
  have t12 : stp 29 σ12 σ29 := stp.tr (stp.c hs13 (by decide)) (t13.mo (by decide))
  have t11 : stp 29 σ11 σ29 := stp.tr (stp.f hs12 (by decide)) (t12.mo (by decide))
  have t10 : stp 23 σ10 σ29 := stp.tr (stp.c hs11 (by decide)) (t11.mo (by decide))
  have t9 : stp 23 σ9 σ29 := stp.tr (stp.f hs10 (by decide)) (t10.mo (by decide))
  have t8 : stp 16 σ8 σ29 := stp.tr (stp.c hs9 (by decide)) (t9.mo (by decide))
  have t7 : stp 16 σ7 σ29 := stp.tr (stp.f hs8 (by decide)) (t8.mo (by decide))
  have t6 : stp 16 σ6 σ29 := stp.tr (stp.s hs7) (t7.mo (by decide))
  have t5 : stp 13 σ5 σ29 := stp.tr (stp.c hs6 (by decide)) (t6.mo (by decide))
  have t4 : stp 13 σ4 σ29 := stp.tr (stp.f hs5 (by decide)) (t5.mo (by decide))
  have t3 : stp 7 σ3 σ29 := stp.tr (stp.c hs4 (by decide)) (t4.mo (by decide))
  have t2 : stp 7 σ2 σ29 := stp.tr (stp.f hs3 (by decide)) (t3.mo (by decide))
  have t1 : stp 1 σ1 σ29 := stp.tr (stp.c hs2 (by decide)) (t2.mo (by decide))
  have o3 : σ29 0 3 = 0 := by rw [hs29 0 (by decide), hs28, sf_row _ (by decide), hs27 0 (by decide), hs26, sf_row _ (by decide), hs25 0 (by decide), hs24, sf_row _ (by decide), hs23 0 (by decide), hs22, sf_row _ (by decide), hs21, sf_row _ (by decide), hs20, sf_row _ (by decide), hs19 0 (by decide), hs18, sf_row _ (by decide), hs17, ss_ne _ _ (by decide), hs16, ss_ne _ _ (by decide), hs15 0 (by decide), hs14, sf_row _ (by decide), hs13 0 (by decide), hs12, sf_row _ (by decide), hs11 0 (by decide), hs10, sf_row _ (by decide), hs9 0 (by decide), hs8, sf_row _ (by decide), hs7]; exact ss_at _ _ _ _
  have o8 : σ29 0 8 = -1 := by rw [hs29 0 (by decide), hs28, sf_row _ (by decide), hs27 0 (by decide), hs26, sf_row _ (by decide), hs25 0 (by decide), hs24, sf_row _ (by decide), hs23 0 (by decide), hs22, sf_row _ (by decide), hs21, sf_row _ (by decide), hs20, sf_row _ (by decide), hs19 0 (by decide), hs18, sf_row _ (by decide), hs17, ss_ne _ _ (by decide), hs16]; exact ss_at _ _ _ _
  have o9 : σ29 0 9 = 0 := by rw [hs29 0 (by decide), hs28, sf_row _ (by decide), hs27 0 (by decide), hs26, sf_row _ (by decide), hs25 0 (by decide), hs24, sf_row _ (by decide), hs23 0 (by decide), hs22, sf_row _ (by decide), hs21, sf_row _ (by decide), hs20, sf_row _ (by decide), hs19 0 (by decide), hs18, sf_row _ (by decide), hs17]; exact ss_at _ _ _ _
  have hfin : PX7 σ29 := ⟨(PX2.cg hp2 (fun c hc => t2 (1 + c) (by omega) (by omega))),
    (PX2.cg hp4 (fun c hc => t4 (7 + c) (by omega) (by omega))),
    (PX1.cg hp6 (fun c hc => t6 (13 + c) (by omega) (by omega))),
    (PX0.cg hp9 (fun c hc => t9 (16 + c) (by omega) (by omega))),
    (PX5.cg hp11 (fun c hc => t11 (23 + c) (by omega) (by omega))),
    (PX6.cg hp13 (fun c hc => t13 (29 + c) (by omega) (by omega))),
    (PX6.cg hp15 (fun c hc => t15 (41 + c) (by omega) (by omega))),
    (PX4.cg hp19 (fun c hc => t19 (53 + c) (by omega) (by omega))),
    (PX3.cg hp23 (fun c hc => t23 (57 + c) (by omega) (by omega))),
    (PX3.cg hp25 (fun c hc => t25 (59 + c) (by omega) (by omega))),
    (PX3.cg hp27 (fun c hc => t27 (61 + c) (by omega) (by omega))),
    (PX3.cg hp29 (fun c hc => t29 (63 + c) (by omega) (by omega))),
    o3,
    o8,
    o9,
    (fun i => by rw [t21 56 (by decide) (by decide), hs21, sf_at])⟩
  exact hret ad29 σ29 H locs ls 149 he0 hfin (hw.eqL LX_is) dX7_init_149
