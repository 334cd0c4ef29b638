-- PLAN's constructor
def SX (aK aV : Nat → Nat) (fq B0 : Nat) (own : String) (b : Nat) (U : State) : Prop := (SK aK aV fq B0 U ∧ ∀ i, i < 6 → vk_R own (b + 2 * i) (txS i) (aK i) U) ∧ B0 ≤ U.heap.size
theorem SX.bl {aK aV : Nat → Nat} {fq B0 b : Nat} {own : String} : Zb (SX aK aV fq B0 own b) := fun a U g mk h => ⟨⟨h.1.1.blind g mk a, fun i hi => vk_R.same (u := U) rfl (h.1.2 i hi)⟩, h.2⟩
theorem SX.to {aK aV : Nat → Nat} {fq B0 b : Nat} {own : String} {s U : State} {A : Nat → Prop} {H : Heap} {locs : List Loc} (h : SX aK aV fq B0 own b s) (hA : ∀ q, A q → B0 ≤ q) (hS : va_S A s.heap H locs) (hU : U.heap = H) (hW : s.WarmedH U.vm) : SX aK aV fq B0 own b U :=
  ⟨⟨h.1.1.to hA hS hU hW, fun i hi => vk_R.warm hW (h.1.2 i hi)⟩, by rw [hU]; exact Nat.le_trans h.2 hS.1⟩
theorem ofi_nat (k : Nat) : Int32.ofInt (k : Int) = Int32.ofNat k := Int32.toBitVec_inj.mp (by rw [Int32.toBitVec_ofInt, BitVec.ofInt_natCast]; rfl)
section TXR
variable {p : Program} {l : Launch} {e : Env} {R : Room} {s : State} {m : MethodId} {args : Array Value} {below : List Frame} {meth : Method} {c : Code} {H : Heap} {locs : List Loc} {cells slots : Nat} {Q : State → Prop}
variable {cc : ByteArray} {nL : Nat} {Ts : List Cond} {own : String} {pc : Nat} {ls : Array Slot} {rest st : List Value} {cl : List vw_C} {G : GT} {L : List LC} {ad : Nat → Nat} {A : Nat → Prop} {σ : St}
variable {aK aV : Nat → Nat} {fq B0 : Nat} {y : MethodName} {bytes : ByteArray} {maxL n index : Nat} {ret : Option FieldType} {ws : List Cond} {rm : Room}
theorem Wy.kept {H1 : Heap} {locs1 : List Loc} (hw : Wy cl G L ad A s H locs σ) (hk : ∀ q : Nat, q < H.size → H1[q]? = H[q]?) (hS : va_S A s.heap H1 locs1) : Wy cl G L ad A s H1 locs1 σ :=
  ⟨hw.1, hw.2.1, hw.2.2.1.kept (fun k x hx => hk x.1 ((hw.2.2.1 k x hx).lt)), hS⟩
/-- a string is asked -/
theorem x_cti {r : Int32} (X : CallFix p m c cc nL s args Ts own) (hw : Wy cl G L ad A s H locs σ) (hZ : SK aK aV fq B0 s) (hAB : ∀ q, A q → B0 ≤ q) (i : Nat) (hi : i < 6) (As : List Value) (rest : List Value) (hM : Met l y ws rm (Tp (.ref (aK i) :: As) aK aV fq B0) (Ti r) 0 0 no) (cw : CallW R s args own RJ0 index y bytes maxL ret ws rm 0 0 n) (hn : As.length = n) (hl : ls.size = nL) (hst : st = As.reverse ++ .ref (aK i) :: rest) (hr : (rest.map fun v => v.category).sum ≤ 8) (d : decode cc pc = .ok (.invokevirtual index, 3)) (hf : cells ≤ R.cells ∧ slots ≤ R.slots)
    (kk : ∀ (H1 : Heap) (locs1 : List Loc), Wy cl G L ad A s H1 locs1 σ → (∀ q : Nat, q < H.size → H1[q]? = H[q]?) → W p l e R s m args below meth c H1 locs1 cells slots Q (F0 m (pc + 3) ls (.int r :: rest))) : W p l e R s m args below meth c H locs cells slots Q (F0 m pc ls st) :=
  va_calli (va_runV (As := As) (rest := rest) X hM cw ⟨Tp_blind, vk_recv (hZ.1.narrow hAB) hi hw.2.2.2, fun U hU hW => ⟨rfl, hZ.to hAB hw.2.2.2 hU hW⟩⟩ rfl hn hl hst (lv_room hr) d hf) hw.2.2.2 (fun q _ h => h.elim) (fun q h => h.elim) (fun r' u t H1 locs1 ht hvm hp hB hz hk hS => by
    have hp : r' = r := hp
    subst hp
    have hk' : ∀ q : Nat, q < H.size → H1[q]? = H[q]? := fun q h => hk q h (fun z => z)
    exact kk H1 locs1 (hw.kept hk' hS) hk')
end TXR
set_option maxHeartbeats 1000000 in
theorem c_firstWord {aK aV : Nat → Nat} {fq B0 : Nat} (l : Launch) (k : Nat) (hk : k < 6) : Met l yX2_firstWord wsX2_firstWord (rmx 0 0) (va_Pc [iV (k : Nat)] (fun U => SX aK aV fq B0 RX2 54 U)) (va_Qr (fun (_ : Unit) => True) (fun _ a _ => a = aK k) no) 0 0 no := by
  refine Met.ofW (cc := cX2_firstWord) (maxL := 1) (ret := some (.object "java/lang/String")) (by decide) rfl ?_
  intro p e s m args below meth c s₁ B hml hv
  obtain ⟨rfl, hZ⟩ := hv
  have hr := B.returns
  have X : CallFix p m c cX2_firstWord 1 s [iV (k : Nat)].toArray wsX2_firstWord RX2 := ⟨B.exec, B.bytes, hml, findClass_of_methodNamed B.named, atoms_spec (ws := wsX2_firstWord) B.pre⟩
  have hlocks := B.notSynchronized
  have hS : va_S no s.heap s.heap [] := va_S.rf
  have hl := lv_entry [iV (k : Nat)] (n := 1) (Nat.le_of_ble_eq_true rfl)
  rw [lg_entry_eq]
  generalize (lg_sl [iV (k : Nat)] ++ List.replicate (1 - (lg_sl [iV (k : Nat)]).length) Slot.unset).toArray = ls at hl ⊢
  have hl : lv_has ls 1 [(0, iV (k : Nat))] := hl
  refine x_iload_n X dX2_firstWord_0 rfl (lv_at hl 0 rfl) ?_
  have hc : k = 0 ∨ k = 1 ∨ k = 2 ∨ k = 3 ∨ k = 4 ∨ k = 5 := by omega
  rcases hc with rfl | rfl | rfl | rfl | rfl | rfl
  · refine x_tabIn X 0 36 dX2_firstWord_1 (by decide) (by decide) (by decide) rfl (by decide) ?_
    refine va_ldcS X.1 X.2.1 X.2.2.2.1 (hZ.1.2 0 hk) dX2_firstWord_36 ?_
    exact W.aret X.1 X.2.1 hr (Or.inl ⟨_, rfl⟩) (Or.inr ⟨_, rfl⟩) (fun t ht hW => ⟨⟨(), _, rfl, trivial, rfl⟩, hS.F ht⟩) (fun _ h => by cases h) dX2_firstWord_38
  · refine x_tabIn X 1 39 dX2_firstWord_1 (by decide) (by decide) (by decide) rfl (by decide) ?_
    refine va_ldcS X.1 X.2.1 X.2.2.2.1 (hZ.1.2 1 hk) dX2_firstWord_39 ?_
    exact W.aret X.1 X.2.1 hr (Or.inl ⟨_, rfl⟩) (Or.inr ⟨_, rfl⟩) (fun t ht hW => ⟨⟨(), _, rfl, trivial, rfl⟩, hS.F ht⟩) (fun _ h => by cases h) dX2_firstWord_41
  · refine x_tabIn X 2 42 dX2_firstWord_1 (by decide) (by decide) (by decide) rfl (by decide) ?_
    refine va_ldcS X.1 X.2.1 X.2.2.2.1 (hZ.1.2 2 hk) dX2_firstWord_42 ?_
    exact W.aret X.1 X.2.1 hr (Or.inl ⟨_, rfl⟩) (Or.inr ⟨_, rfl⟩) (fun t ht hW => ⟨⟨(), _, rfl, trivial, rfl⟩, hS.F ht⟩) (fun _ h => by cases h) dX2_firstWord_44
  · refine x_tabIn X 3 45 dX2_firstWord_1 (by decide) (by decide) (by decide) rfl (by decide) ?_
    refine va_ldcS X.1 X.2.1 X.2.2.2.1 (hZ.1.2 3 hk) dX2_firstWord_45 ?_
    exact W.aret X.1 X.2.1 hr (Or.inl ⟨_, rfl⟩) (Or.inr ⟨_, rfl⟩) (fun t ht hW => ⟨⟨(), _, rfl, trivial, rfl⟩, hS.F ht⟩) (fun _ h => by cases h) dX2_firstWord_47
  · refine x_tabIn X 4 48 dX2_firstWord_1 (by decide) (by decide) (by decide) rfl (by decide) ?_
    refine va_ldcS X.1 X.2.1 X.2.2.2.1 (hZ.1.2 4 hk) dX2_firstWord_48 ?_
    exact W.aret X.1 X.2.1 hr (Or.inl ⟨_, rfl⟩) (Or.inr ⟨_, rfl⟩) (fun t ht hW => ⟨⟨(), _, rfl, trivial, rfl⟩, hS.F ht⟩) (fun _ h => by cases h) dX2_firstWord_50
  · refine x_tabOut X 51 dX2_firstWord_1 (by decide) (by decide) ?_
    refine va_ldcS X.1 X.2.1 X.2.2.2.1 (hZ.1.2 5 hk) dX2_firstWord_51 ?_
    exact W.aret X.1 X.2.1 hr (Or.inl ⟨_, rfl⟩) (Or.inr ⟨_, rfl⟩) (fun t ht hW => ⟨⟨(), _, rfl, trivial, rfl⟩, hS.F ht⟩) (fun _ h => by cases h) dX2_firstWord_53
