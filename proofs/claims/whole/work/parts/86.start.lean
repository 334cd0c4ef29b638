-- THE LAW: from its entry
theorem tbw (i : Nat) {w : Cond} (h : tables_1[i]? = some w) : w ∈ lw_tbl := List.mem_append_right _ (List.mem_of_getElem? h)
theorem uK_all {s : State} {cl : List vw_C} (hq : ∀ q ∈ cl, ∃ (cC : ClassId) (iS : Nat → Nat), u_Kn s q.1 q.2.1 q.2.2 cC iS) : ∃ D : va_G, ∀ (c : Nat) (q : vw_C), cl[c]? = some q → u_Kn s q.1 q.2.1 q.2.2 (D.1 c) (D.2 c) := by
  have h0 : ∀ c : Nat, ∃ r : ClassId × (Nat → Nat), ∀ q, cl[c]? = some q → u_Kn s q.1 q.2.1 q.2.2 r.1 r.2 := fun c => by
    cases h : cl[c]? with
    | none => exact ⟨(0, fun _ => 0), fun q hq => by cases hq⟩
    | some q0 =>
      obtain ⟨a, i, hk⟩ := hq q0 (List.mem_of_getElem? h)
      exact ⟨(a, i), fun q hq => by cases hq; exact hk⟩
  obtain ⟨f, hf⟩ := Classical.axiomOfChoice h0
  exact ⟨(fun c => (f c).1, fun c => (f c).2), hf⟩
theorem aI_of {args : Array Value} {s : State} {ty : FieldType} (hty : ty = .int ∨ ty = .long) (h : (Cond.arrayClass ty).before args s = true) : ∃ cA : ClassId, ArrOfT s cA ty ∧ va_RA s cA ty := by
  obtain ⟨c, k, comp, h1, h2, h3⟩ := Cond.arrayClass_spec h
  refine ⟨c, fun N z => ⟨(fun k h => by cases h), k, h2, comp, h3⟩, ?_⟩
  rcases hty with rfl | rfl
  · exact h1
  · exact h1
theorem aO_of {args : Array Value} {s : State} {C : String} (h : (Cond.arrayOver (.object C)).before args s = true) : ∃ cA : ClassId, ArrOfT s cA (.object C) ∧ va_RA s cA (.object C) := by
  obtain ⟨comp, c, k, h1, h2, h3, h4, h5⟩ := Cond.arrayOver_spec h
  exact ⟨c, fun N z => ⟨(fun k h => by cases h), k, h3, comp, h4⟩, k, comp, h3, h4, h1, h5⟩
theorem tI0 : Cond.instantiable RX0 8 ∈ lw_tbl := tbw 149 (by decide +kernel)
theorem tI1 : Cond.instantiable RX1 3 ∈ lw_tbl := tbw 131 (by decide +kernel)
theorem tI2 : Cond.instantiable RX2 7 ∈ lw_tbl := tbw 27 (by decide +kernel)
theorem tI3 : Cond.instantiable RX3 3 ∈ lw_tbl := tbw 286 (by decide +kernel)
theorem tI4 : Cond.instantiable RX4 2 ∈ lw_tbl := tbw 270 (by decide +kernel)
theorem tI5 : Cond.instantiable RX5 6 ∈ lw_tbl := tbw 190 (by decide +kernel)
theorem tI6 : Cond.instantiable RX6 10 ∈ lw_tbl := tbw 217 (by decide +kernel)
theorem tI7 : Cond.instantiable RX7 13 ∈ lw_tbl := tbw 19 (by decide +kernel)
theorem tI8 : Cond.instantiable RX8 33 ∈ lw_tbl := tbw 801 (by decide +kernel)
theorem law_K {args : Array Value} {s : State} (hts : ∀ w ∈ lw_tbl, w.before args s = true) : ∃ G : GT, va_K G.2 vwCl (tyx G) s := by
  obtain ⟨D, hD⟩ := uK_all (s := s) (cl := vwCl) (List.forall_mem_cons.mpr ⟨u_known hts inX0 (hts _ tI0), List.forall_mem_cons.mpr ⟨u_known hts inX1 (hts _ tI1), List.forall_mem_cons.mpr ⟨u_known hts inX2 (hts _ tI2), List.forall_mem_cons.mpr ⟨u_known hts inX3 (hts _ tI3), List.forall_mem_cons.mpr ⟨u_known hts inX4 (hts _ tI4), List.forall_mem_cons.mpr ⟨u_known hts inX5 (hts _ tI5), List.forall_mem_cons.mpr ⟨u_known hts inX6 (hts _ tI6), List.forall_mem_cons.mpr ⟨u_known hts inX7 (hts _ tI7), List.forall_mem_cons.mpr ⟨u_known hts inX8 (hts _ tI8), fun _ h => absurd h List.not_mem_nil⟩⟩⟩⟩⟩⟩⟩⟩⟩)
  obtain ⟨cI, i1, i2⟩ := aI_of (args := args) (s := s) (ty := .int) (Or.inl rfl) (hts _ (tbw 128 (by decide +kernel)))
  obtain ⟨cJ, j1, j2⟩ := aI_of (args := args) (s := s) (ty := .long) (Or.inr rfl) (hts _ (tbw 188 (by decide +kernel)))
  obtain ⟨cS, s1, s2⟩ := aO_of (args := args) (s := s) (C := "LacePillow$Sheet") (hts _ (tbw 285 (by decide +kernel)))
  refine ⟨((cI, cJ, cS), D), hD, fun k q hq => ?_⟩
  match k, hq with
  | 0, hq => cases hq; exact ⟨i1, i2⟩
  | 1, hq => cases hq; exact ⟨j1, j2⟩
  | 2, hq => cases hq; exact ⟨s1, s2⟩
set_option maxRecDepth 20000 in
theorem fl7a : ∀ i, i < 6 → Cond.exactly (Term.string RX2 (54 + 2 * i)) "java/lang/String" ∈ flatC (Jvm.Cond.and given_1 narrow_1) := by decide +kernel
set_option maxRecDepth 20000 in
theorem fl7b : ∀ i, i < 6 → Cond.eq (.field (Term.string RX2 (54 + 2 * i)) "java/lang/String" "coder" "B") (.int 0) ∈ flatC (Jvm.Cond.and given_1 narrow_1) := by decide +kernel
set_option maxRecDepth 20000 in
theorem fl7c : ∀ i, i < 6 → Cond.arrayOf (.field (Term.string RX2 (54 + 2 * i)) "java/lang/String" "value" "[B") .byte ∈ flatC (Jvm.Cond.and given_1 narrow_1) := by decide +kernel
set_option maxRecDepth 20000 in
theorem fl7d : ∀ i, i < 6 → Cond.eq (.length (.field (Term.string RX2 (54 + 2 * i)) "java/lang/String" "value" "[B")) (.int (Int32.ofNat (lenS.getD i 0))) ∈ flatC (Jvm.Cond.and given_1 narrow_1) := by decide +kernel
set_option maxRecDepth 20000 in
theorem fl7e : ∀ i, i < 6 → ∀ j, j < lenS.getD i 0 → Cond.eq (.elem (.field (Term.string RX2 (54 + 2 * i)) "java/lang/String" "value" "[B") (.int (Int32.ofNat j))) (.int ((bytS.getD i []).getD j 0)) ∈ flatC (Jvm.Cond.and given_1 narrow_1) := by decide +kernel
set_option maxRecDepth 20000 in
theorem fl7n : ∀ i, i < 6 → ∀ j, j < 6 → i ≠ j → Cond.not (Cond.eq (Term.string RX2 (54 + 2 * i)) (Term.string RX2 (54 + 2 * j))) ∈ flatC (Jvm.Cond.and given_1 narrow_1) ∨ Cond.not (Cond.eq (Term.string RX2 (54 + 2 * j)) (Term.string RX2 (54 + 2 * i))) ∈ flatC (Jvm.Cond.and given_1 narrow_1) := by decide +kernel
theorem fl7r : ∀ i, i < 6 → Cond.stringRef RX2 (54 + 2 * i) (txS i) ∈ lw_tbl := fun i hi => by
  match i, hi with
  | 0, _ => exact tbw 38 (by decide +kernel)
  | 1, _ => exact tbw 39 (by decide +kernel)
  | 2, _ => exact tbw 40 (by decide +kernel)
  | 3, _ => exact tbw 41 (by decide +kernel)
  | 4, _ => exact tbw 42 (by decide +kernel)
  | 5, _ => exact tbw 43 (by decide +kernel)
set_option maxRecDepth 20000 in
theorem fl8a : ∀ i, i < 6 → Cond.exactly (Term.string RX8 (94 + 2 * i)) "java/lang/String" ∈ flatC (Jvm.Cond.and given_1 narrow_1) := by decide +kernel
set_option maxRecDepth 20000 in
theorem fl8b : ∀ i, i < 6 → Cond.eq (.field (Term.string RX8 (94 + 2 * i)) "java/lang/String" "coder" "B") (.int 0) ∈ flatC (Jvm.Cond.and given_1 narrow_1) := by decide +kernel
set_option maxRecDepth 20000 in
theorem fl8c : ∀ i, i < 6 → Cond.arrayOf (.field (Term.string RX8 (94 + 2 * i)) "java/lang/String" "value" "[B") .byte ∈ flatC (Jvm.Cond.and given_1 narrow_1) := by decide +kernel
set_option maxRecDepth 20000 in
theorem fl8d : ∀ i, i < 6 → Cond.eq (.length (.field (Term.string RX8 (94 + 2 * i)) "java/lang/String" "value" "[B")) (.int (Int32.ofNat (lenS.getD i 0))) ∈ flatC (Jvm.Cond.and given_1 narrow_1) := by decide +kernel
set_option maxRecDepth 20000 in
theorem fl8e : ∀ i, i < 6 → ∀ j, j < lenS.getD i 0 → Cond.eq (.elem (.field (Term.string RX8 (94 + 2 * i)) "java/lang/String" "value" "[B") (.int (Int32.ofNat j))) (.int ((bytS.getD i []).getD j 0)) ∈ flatC (Jvm.Cond.and given_1 narrow_1) := by decide +kernel
set_option maxRecDepth 20000 in
theorem fl8n : ∀ i, i < 6 → ∀ j, j < 6 → i ≠ j → Cond.not (Cond.eq (Term.string RX8 (94 + 2 * i)) (Term.string RX8 (94 + 2 * j))) ∈ flatC (Jvm.Cond.and given_1 narrow_1) ∨ Cond.not (Cond.eq (Term.string RX8 (94 + 2 * j)) (Term.string RX8 (94 + 2 * i))) ∈ flatC (Jvm.Cond.and given_1 narrow_1) := by decide +kernel
theorem fl8r : ∀ i, i < 6 → Cond.stringRef RX8 (94 + 2 * i) (txS i) ∈ lw_tbl := fun i hi => by
  match i, hi with
  | 0, _ => exact tbw 808 (by decide +kernel)
  | 1, _ => exact tbw 809 (by decide +kernel)
  | 2, _ => exact tbw 810 (by decide +kernel)
  | 3, _ => exact tbw 811 (by decide +kernel)
  | 4, _ => exact tbw 812 (by decide +kernel)
  | 5, _ => exact tbw 813 (by decide +kernel)
theorem flZ : Cond.eq (.static "java/lang/String" "COMPACT_STRINGS" "Z") (.int 1) ∈ flatC (Jvm.Cond.and given_1 narrow_1) := by decide +kernel
theorem flQ : Cond.isRef (.static "jdk/internal/util/Preconditions" "SIOOBE_FORMATTER" "Ljava/util/function/BiFunction;") ∈ flatC (Jvm.Cond.and given_1 narrow_1) := by decide +kernel
theorem law_fq {args : Array Value} {s : State} {t : Term} (h : (Cond.isRef t).before args s = true) : ∃ fq : Nat, t.eval args s none [] s = some (rN fq) := by
  obtain ⟨v, hv, hr⟩ := Cond.isRef_spec (args := args) (first := s) (o := none) (s := s) (idx := []) h
  cases v with
  | null => exact ⟨0, hv⟩
  | ref a => exact ⟨a + 1, hv⟩
  | _ => simp [Value.isRef] at hr
theorem law_S7 {args : Array Value} {s : State} (hts : ∀ w ∈ lw_tbl, w.before args s = true) (hf : ∀ c ∈ flatC (Jvm.Cond.and given_1 narrow_1), c.before args s = true) : ∃ (aK aV : Nat → Nat) (fq : Nat), SX aK aV fq s.heap.size RX2 54 s := by
  obtain ⟨aK, aV, hS, hT⟩ := vk_Sof (args := args) (s := s) (N := 6) (tm := fun i => Term.string RX2 (54 + 2 * i)) (len := lenS) (byt := bytS) (A := fun q => s.heap.size ≤ q) (by decide) (fun i hi => hf _ (fl7a i hi)) (fun i hi => hf _ (fl7b i hi)) (fun i hi => hf _ (fl7c i hi)) (fun i hi => hf _ (fl7d i hi)) (fun i hi j hj => hf _ (fl7e i hi j hj)) (fun i j hi hj hne => (fl7n i hi j hj hne).imp (hf _) (hf _)) (fun a ha => Nat.not_le.mpr ha)
  obtain ⟨fq, hfq⟩ := law_fq (hf _ flQ)
  exact ⟨aK, aV, fq, ⟨⟨hS, va_Zof (hts _ (tbw 53 (by decide +kernel))) (hts _ (tbw 4 (by decide +kernel))) (va_eqi (hf _ flZ)) (fun a ha => Nat.not_le.mpr ha), va_Zof (hts _ (tbw 69 (by decide +kernel))) (hts _ (tbw 6 (by decide +kernel))) hfq (fun a ha => Nat.not_le.mpr ha)⟩, fun i hi => vk_R.of (hts _ (fl7r i hi)) (hT i hi)⟩, Nat.le_refl _⟩
theorem law_S8 {args : Array Value} {s : State} (hts : ∀ w ∈ lw_tbl, w.before args s = true) (hf : ∀ c ∈ flatC (Jvm.Cond.and given_1 narrow_1), c.before args s = true) : ∃ (aK aV : Nat → Nat) (fq : Nat), SX aK aV fq s.heap.size RX8 94 s := by
  obtain ⟨aK, aV, hS, hT⟩ := vk_Sof (args := args) (s := s) (N := 6) (tm := fun i => Term.string RX8 (94 + 2 * i)) (len := lenS) (byt := bytS) (A := fun q => s.heap.size ≤ q) (by decide) (fun i hi => hf _ (fl8a i hi)) (fun i hi => hf _ (fl8b i hi)) (fun i hi => hf _ (fl8c i hi)) (fun i hi => hf _ (fl8d i hi)) (fun i hi j hj => hf _ (fl8e i hi j hj)) (fun i j hi hj hne => (fl8n i hi j hj hne).imp (hf _) (hf _)) (fun a ha => Nat.not_le.mpr ha)
  obtain ⟨fq, hfq⟩ := law_fq (hf _ flQ)
  exact ⟨aK, aV, fq, ⟨⟨hS, va_Zof (hts _ (tbw 53 (by decide +kernel))) (hts _ (tbw 4 (by decide +kernel))) (va_eqi (hf _ flZ)) (fun a ha => Nat.not_le.mpr ha), va_Zof (hts _ (tbw 69 (by decide +kernel))) (hts _ (tbw 6 (by decide +kernel))) hfq (fun a ha => Nat.not_le.mpr ha)⟩, fun i hi => vk_R.of (hts _ (fl8r i hi)) (hT i hi)⟩, Nat.le_refl _⟩
theorem tN0 : Cond.methodLinkNest RX7 32 yX0_init "LacePillow" ∈ lw_tbl := tbw 150 (by decide +kernel)
theorem tN5 : Cond.methodLinkNest RX7 39 yX5_init "LacePillow" ∈ lw_tbl := tbw 191 (by decide +kernel)
theorem tN4 : Cond.methodLinkNest RX7 64 yX4_init "LacePillow" ∈ lw_tbl := tbw 271 (by decide +kernel)
theorem tN3 : Cond.methodLinkNest RX7 79 yX3_init "LacePillow" ∈ lw_tbl := tbw 287 (by decide +kernel)
theorem law_Z7 {args : Array Value} {s : State} (hts : ∀ w ∈ lw_tbl, w.before args s = true) (hf : ∀ c ∈ flatC (Jvm.Cond.and given_1 narrow_1), c.before args s = true) : ∃ (aK aV : Nat → Nat) (fq : Nat), ZX7 aK aV fq s.heap.size s := by
  obtain ⟨aK, aV, fq, h⟩ := law_S7 hts hf
  exact ⟨aK, aV, fq, ⟨h, va_AO.of (hts _ (tbw 285 (by decide +kernel)))⟩, va_Nw.of rfl (hts _ tN0), va_Nw.of rfl (hts _ tN5), va_Nw.of rfl (hts _ tN4), va_Nw.of rfl (hts _ tN3)⟩
theorem law_Z8 {args : Array Value} {s : State} (hts : ∀ w ∈ lw_tbl, w.before args s = true) (hf : ∀ c ∈ flatC (Jvm.Cond.and given_1 narrow_1), c.before args s = true) : ∃ (aK aV : Nat → Nat) (fq : Nat), ZX8 aK aV fq s.heap.size s := by
  obtain ⟨aK, aV, fq, h⟩ := law_S8 hts hf
  exact ⟨aK, aV, fq, h, va_AO.of (hts _ (tbw 807 (by decide +kernel)))⟩
theorem Wy.split {cl : List vw_C} {G : GT} {L M : List LC} {ad : Nat → Nat} {A : Nat → Prop} {s : State} {H : Heap} {locs : List Loc} {σ : St} {P : St → Prop} {n : Nat} (hn : L.length = n) (hlow : allLow L = true) (hw : Wy cl G (L ++ M.map (shC n)) ad A s H locs σ) {σX : St} (es : ∀ k, k < n → σ k = σX k) (hp : P (fun k => σ (n + k))) : ∃ (adM : Nat → Nat) (τ : St), adM 0 = ad n ∧ P τ ∧ Wy cl G L ad A s H locs σX ∧ Wy cl G M adM A s H locs τ ∧ ∀ i, i < L.length → ∀ j, j < M.length → ad i ≠ adM j := by
  subst hn
  obtain ⟨hK, ⟨hI, hAx⟩, hP, hS⟩ := hw
  have ew := wd_sh (G := G) (M := M) (ad := ad) (ad' := ad) (adC := fun k => ad (L.length + k)) (σ := σX) (σ' := σ) (σC := fun k => σ (L.length + k)) hlow (fun _ _ => rfl) es (fun _ => rfl) (fun _ => rfl)
  rw [ew] at hP
  have hlen : (L ++ M.map (shC L.length)).length = L.length + M.length := by rw [List.length_append, List.length_map]
  have hlw : (wd G L ad σX).length = L.length := by unfold wd; rw [List.length_mapIdx]
  refine ⟨fun k => ad (L.length + k), fun k => σ (L.length + k), rfl, hp, ⟨hK, ⟨fun i j hi hj he => hI i j (by omega) (by omega) he, fun q hq => ?_⟩, fun k q hq => hP k q ?_, hS⟩, ⟨hK, ⟨fun i j hi hj he => ?_, fun q hq => ?_⟩, fun k q hq => hP (L.length + k) q ?_, hS⟩, fun i hi j hj he => ?_⟩
  · obtain ⟨k, hk, rfl⟩ := hq
    exact hAx _ ⟨k, by omega, rfl⟩
  · rw [List.getElem?_append_left (List.getElem?_eq_some_iff.mp hq).1]
    exact hq
  · have := hI (L.length + i) (L.length + j) (by omega) (by omega) he
    omega
  · obtain ⟨k, hk, rfl⟩ := hq
    exact hAx _ ⟨L.length + k, by omega, rfl⟩
  · rw [List.getElem?_append_right (by omega), hlw, Nat.add_sub_cancel_left]
    exact hq
  · have := hI i (L.length + j) (by omega) (by omega) he
    omega
theorem LX_low : allLow LX = true := by decide +kernel
theorem LX_len : LX.length = 65 := by decide +kernel
theorem LX_sh0 : LX.map (shC 0) = LX := by decide +kernel
def fsM : List (Nat ⊕ Bool) := [.inl 0, .inl 0, .inl 0, .inr false, .inl 0, .inr false, .inl 0, .inl 0, .inl 0, .inl 0, .inl 0, .inl 0, .inr false, .inl 0, .inl 0, .inr false, .inl 0, .inl 0, .inl 0, .inl 0, .inl 0, .inr false, .inl 0, .inl 0, .inl 0, .inl 0, .inr true, .inl 0, .inl 0, .inl 0, .inl 0, .inl 0, .inl 0]
theorem fsM_low : fsM.all (fLow 1) = true := by decide +kernel
theorem fsM_fits : ∀ j, j < 33 → defaultValue (tyX8 j) = vp_V (fsM.mapIdx (fun (_ : Nat) q => fV (fun _ => 0) q 0)) j := fitsX8
theorem c_Model_f {aK aV : Nat → Nat} {fq B0 : Nat} (l : Launch) (G : GT) (h0 sz : Nat) (hB0 : B0 ≤ h0) : Met l yX8_init wsX8_init (rmc 4 85 28 36898) (Kp vwCl G (.inr (.inr (8, fsM))) (ZX8 aK aV fq B0) h0 sz) (Kq vwCl G LM PX8 h0 sz) 28 36898 (Af h0 sz) := c_Model_init l G h0 sz hB0
theorem wc7 : Cond.classLink RL 7 RX7 ∈ wsL_law := by decide +kernel
theorem wi7 : Cond.instantiable RX7 13 ∈ wsL_law := by decide +kernel
theorem wn7 : Cond.initialized RX7 ∈ wsL_law := by decide +kernel
theorem wm7 : Cond.methodLink RL 9 yX7_init ∈ wsL_law := by decide +kernel
theorem wt7 : Cond.instanceMethod yX7_init ∈ wsL_law := by decide +kernel
theorem wc8 : Cond.classLink RL 10 RX8 ∈ wsL_law := by decide +kernel
theorem wi8 : Cond.instantiable RX8 33 ∈ wsL_law := by decide +kernel
theorem wn8 : Cond.initialized RX8 ∈ wsL_law := by decide +kernel
theorem wm8 : Cond.methodLink RL 12 yX8_init ∈ wsL_law := by decide +kernel
theorem wt8 : Cond.instanceMethod yX8_init ∈ wsL_law := by decide +kernel
set_option maxHeartbeats 4000000 in
set_option maxRecDepth 100000 in
theorem law_make {p : Program} {l : Launch} {e : Env} {s : State} {m : MethodId} {below : List Frame} {meth : Method} {c : Code} {b L : Nat} {xs : Nat → Int32} {G : GT} (X : CallFix p m c cL_law 4 s #[Value.ref b] wsL_law RL) (hr : meth.sig.returnType = ret) (hlocks : meth.locks = false) (hX : va_X b L xs s s.heap) (hbl : b < s.heap.size) (hL : L ≤ 2560) (hK : va_K G.2 vwCl (tyx G) s) {aK aV bK bV : Nat → Nat} {fq gq : Nat} (hZ7 : ZX7 aK aV fq s.heap.size s) (hZ8 : ZX8 bK bV gq s.heap.size s) {ls : Array Slot} (hl : lv_has ls 4 [(0, .ref b)]) : W p l e room_1 s m #[Value.ref b] below meth c s.heap [] 0 0 (lw_Z below #[Value.ref b] s) (F0 m 0 ls []) := by
  have hA : ∀ q, s.heap.size ≤ q → (fun q => s.heap.size ≤ q) q := fun q h => h
  have hw : Wy vwCl G [] (fun _ => 0) (fun q => s.heap.size ≤ q) s s.heap [] (fun _ _ => 0) := ⟨hK, ⟨fun i j hi => absurd hi (Nat.not_lt_zero _), fun q hq => by obtain ⟨k, hk, _⟩ := hq; exact absurd hk (Nat.not_lt_zero _)⟩, fun k q hq => by simp [wd] at hq, va_S.rf⟩
  refine x_newo X hw hA rfl [.inl 0, .inl 0, .inl 0, .inr false, .inl 0, .inl 0, .inl 0, .inl 0, .inr false, .inr true, .inl 0, .inl 0, .inl 0] cX7 inlX7 tyX7 tyX7_ok wc7 wi7 wn7 (by decide) fitsX7 (Nat.le_of_ble_eq_true rfl) (Nat.le_of_ble_eq_true rfl) dL_law_0 (fun ad1 H e1 hw => ?_)
  obtain ⟨σ1, hs1⟩ : ∃ z : St, z = sf (fun _ _ => 0) 0 (fun _ => 0) := ⟨_, rfl⟩
  replace hw : Wy vwCl G ([] ++ [.inr (.inr (7, [.inl 0, .inl 0, .inl 0, .inr false, .inl 0, .inl 0, .inl 0, .inl 0, .inr false, .inr true, .inl 0, .inl 0, .inl 0]))]) ad1 (fun q => s.heap.size ≤ q) s H [] σ1 := by rw [hs1]; exact hw
  show W p l e room_1 s m #[Value.ref b] below meth c H [] 1 13 (lw_Z below #[Value.ref b] s) (F0 m 3 ls [.ref (ad1 0)])
  refine x_dup X dL_law_3 rfl ?_
  refine x_ctor (L := []) (M := LX) X 0 rfl hw hA rfl (by decide) (by rw [hs1]; exact sf_at _ _ _) (fun sz => c_Pillow_init l G _ sz (hw.2.1.2 _ ⟨0, by decide, rfl⟩)) (cwI 0 X.2.2.2.2 gL_law_X7_init rfl rfl rfl (X.2.2.2.2 _ wn7) (X.2.2.2.2 _ wm7) (X.2.2.2.2 _ wt7) rfl (by decide +kernel) ⟨Nat.le_of_ble_eq_true rfl, Nat.le_of_ble_eq_true rfl⟩) ZX7.bl (fun U hU hW => hZ7.to (fun q h => h) hw.2.2.2 hU hW) hl.1 (Nat.le_of_ble_eq_true rfl) dL_law_4 ⟨Nat.le_of_ble_eq_true rfl, Nat.le_of_ble_eq_true rfl⟩ (fun ad2 σ2 H locs e2 f2 hs2 hp2 hw => ?_)
  replace hp2 : PX7 σ2 := by have e : (fun k => σ2 (0 + k)) = σ2 := (by funext k; rw [Nat.zero_add]); rw [e] at hp2; exact hp2
  replace hw : Wy vwCl G LX ad2 (fun q => s.heap.size ≤ q) s H locs σ2 := hw.eqL ((List.nil_append _).trans LX_sh0)
  rw [← f2]
  show W p l e room_1 s m #[Value.ref b] below meth c H locs 65 7659 (lw_Z below #[Value.ref b] s) (F0 m 7 ls [.ref (ad2 0)])
  refine x_astore_n X [(1, .ref (ad2 0)), (0, .ref b)] dL_law_7 rfl hl (by decide) rfl (fun ls hl => ?_)
  refine x_newo X hw hA LX_low fsM cX8 inlX8 tyX8 tyX8_ok wc8 wi8 wn8 fsM_low fsM_fits (Nat.le_of_ble_eq_true rfl) (Nat.le_of_ble_eq_true rfl) dL_law_8 (fun ad3 H e3 hw => ?_)
  rw [LX_len] at hw e3
  rw [LX_len]
  rw [← e3 0 (by decide)] at hl
  obtain ⟨σ3, hs3⟩ : ∃ z : St, z = sf σ2 65 (fun _ => 0) := ⟨_, rfl⟩
  replace hw : Wy vwCl G (LX ++ [.inr (.inr (8, fsM))]) ad3 (fun q => s.heap.size ≤ q) s H locs σ3 := by rw [hs3]; exact hw
  show W p l e room_1 s m #[Value.ref b] below meth c H locs 66 7692 (lw_Z below #[Value.ref b] s) (F0 m 11 ls [.ref (ad3 65)])
  refine x_dup X dL_law_11 rfl ?_
  refine x_ctor (L := LX) (M := LM) X 65 LX_len hw hA LX_low fsM_low (by rw [hs3]; exact sf_at _ _ _) (fun sz => c_Model_f l G _ sz (hw.2.1.2 _ ⟨65, by rw [List.length_append, LX_len]; decide, rfl⟩)) (cwI 0 X.2.2.2.2 gL_law_X8_init rfl rfl rfl (X.2.2.2.2 _ wn8) (X.2.2.2.2 _ wm8) (X.2.2.2.2 _ wt8) rfl (by decide +kernel) ⟨Nat.le_of_ble_eq_true rfl, Nat.le_of_ble_eq_true rfl⟩) ZX8.bl (fun U hU hW => hZ8.to (fun q h => h) hw.2.2.2 hU hW) hl.1 (Nat.le_of_ble_eq_true rfl) dL_law_12 ⟨Nat.le_of_ble_eq_true rfl, Nat.le_of_ble_eq_true rfl⟩ (fun ad4 σ4 H locs e4 f4 hs4 hp4 hw => ?_)
  rw [← e4 0 (by decide)] at hl
  rw [← f4]
  obtain ⟨adM, τ, g0, hpM, hwX, hwM, hdis⟩ := Wy.split LX_len LX_low hw (σX := σ2) (fun k hk => (hs4 k hk).trans (by rw [hs3]; exact sf_row _ (by omega) _)) hp4
  rw [← g0]
  show W p l e room_1 s m #[Value.ref b] below meth c H locs 94 44590 (lw_Z below #[Value.ref b] s) (F0 m 15 ls [.ref (adM 0)])
  refine x_astore_n X [(2, .ref (adM 0)), (1, .ref (ad4 0)), (0, .ref b)] dL_law_15 rfl hl (by decide) rfl (fun ls hl => ?_)
  refine x_iconst X dL_law_16 ?_
  refine x_istore_n X [(3, iV ((0 : Nat) : Int)), (2, .ref (adM 0)), (1, .ref (ad4 0)), (0, .ref b)] dL_law_17 rfl hl (by decide) rfl (fun ls hl => ?_)
  exact law_loop X hr hlocks hX hbl hdis hL (L + 5) 0 H locs ls σ2 τ (by omega) (by omega) hl hwX hwM (Rel_init hp2 hpM)
theorem whole_start {p : Program} {e : Env} {s : State} {m : MethodId} {below : List Frame} {meth : Method} {c : Code} (l : Launch) (hflags : l.flags = flags0) {b L : Nat} {xs : Nat → Int32} (hL : L ≤ 2560) (C0 : lw_At p s m meth c b L xs) : W p l e room_1 s m #[Value.ref b] below meth c s.heap [] 0 0 (lw_Z below #[Value.ref b] s) (entryFrame m ([Value.ref b] : List Value).toArray 4) := by
  obtain ⟨hx, hcode, hret, hml, hown, hts, hX, hbl, hlocks, hgv⟩ := C0
  have hf := flat_of_before _ hgv
  obtain ⟨G, hK⟩ := law_K hts
  obtain ⟨aK, aV, fq, hZ7⟩ := law_Z7 hts hf
  obtain ⟨bK, bV, gq, hZ8⟩ := law_Z8 hts hf
  rw [lg_entry_eq]
  exact law_make ⟨hx, hcode, hml, hown, fun w hw => hts w (wsL_law_in w hw)⟩ hret hlocks hX hbl hL hK hZ7 hZ8 (lv_entry [Value.ref b] (n := 4) (Nat.le_of_ble_eq_true rfl))
