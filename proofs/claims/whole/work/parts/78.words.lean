-- THE REFERENCE's constructor: its row of words, beside its cells
def Ws (G : GT) (ad : Nat → Nat) (A : Nat → Prop) (s : State) (H : Heap) (locs : List Loc) (u : St) (q : Nat) (cA : ClassId) (f : Nat → Option Nat) : Prop :=
  va_K G.2 vwCl (tyx G ++ [(cA, .object "java/lang/String")]) s ∧ va_P G.2 vwCl (wd G LM ad u ++ [(q, .inl (cA, 6, .inr (.inr (.inr (.inr f)))))]) H ∧ va_D A (wd G LM ad u ++ [(q, .inl (cA, 6, .inr (.inr (.inr (.inr f)))))]) ∧ va_S A s.heap H locs
theorem LM_len : LM.length = 28 := by decide +kernel
theorem wdM_len {G : GT} {ad : Nat → Nat} {u : St} : (wd G LM ad u).length = 28 := by
  unfold wd
  rw [List.length_mapIdx, LM_len]
theorem gl_app {α : Type} {ws ys : List α} {k : Nat} {x : α} (h : ws[k]? = some x) : (ws ++ ys)[k]? = some x := by
  rw [List.getElem?_append_left (List.getElem?_eq_some_iff.mp h).1]
  exact h
theorem Ws.wy {G : GT} {ad : Nat → Nat} {A : Nat → Prop} {s : State} {H : Heap} {locs : List Loc} {u : St} {q : Nat} {cA : ClassId} {f : Nat → Option Nat} (h : Ws G ad A s H locs u q cA f) : Wy vwCl G LM ad A s H locs u :=
  ⟨⟨h.1.1, fun k x hx => h.1.2 k x (gl_app hx)⟩, wd_D' (G := G) (σ := u) ⟨fun i j p q hi hj => h.2.2.1.1 i j p q (gl_app hi) (gl_app hj), fun k q hk => h.2.2.1.2 k q (gl_app hk)⟩, fun k x hx => h.2.1 k x (gl_app hx), h.2.2.2⟩
theorem Ws.kept {G : GT} {ad : Nat → Nat} {A : Nat → Prop} {s : State} {H H1 : Heap} {locs locs1 : List Loc} {u : St} {q : Nat} {cA : ClassId} {f : Nat → Option Nat} (h : Ws G ad A s H locs u q cA f) (hk : ∀ q : Nat, q < H.size → H1[q]? = H[q]?) (hS : va_S A s.heap H1 locs1) : Ws G ad A s H1 locs1 u q cA f :=
  ⟨h.1, h.2.1.kept (fun k x hx => hk x.1 ((h.2.1 k x hx).lt)), h.2.2.1, hS⟩
theorem Ws_last {G : GT} {ad : Nat → Nat} {u : St} {x : Nat × va_E} : (wd G LM ad u ++ [x])[28]? = some x := by
  rw [List.getElem?_append_right (by rw [wdM_len]; exact Nat.le_refl _), wdM_len]
  rfl
section XW
variable {p : Program} {l : Launch} {e : Env} {R : Room} {s : State} {m : MethodId} {args : Array Value} {below : List Frame} {meth : Method} {c : Code} {H : Heap} {locs : List Loc} {cells slots : Nat} {Q : State → Prop}
variable {cc : ByteArray} {nL : Nat} {Ts : List Cond} {own : String} {pc : Nat} {ls : Array Slot} {rest : List Value} {G : GT} {ad : Nat → Nat} {A : Nat → Prop} {σ : St} {q : Nat} {cA : ClassId} {f : Nat → Option Nat}
theorem x_newS (X : CallFix p m c cc nL s args Ts own) (hw : Wy vwCl G LM ad A s H locs σ) (hA : ∀ q, s.heap.size ≤ q → A q) {index : Nat} (hcl : Cond.classLink own index "java/lang/String" ∈ Ts) (hover : va_AO "java/lang/String" s) (hc : cells + 1 ≤ R.cells) (hsl : slots + 6 ≤ R.slots) (d : decode cc pc = .ok (.anewarray index, 3))
    (kk : ∀ (q : Nat) (cA : ClassId) (H1 : Heap), Ws G ad A s H1 locs σ q cA (fun _ => none) → W p l e R s m args below meth c H1 locs (cells + 1) (slots + 6) Q (F0 m (pc + 3) ls (.ref q :: rest))) : W p l e R s m args below meth c H locs cells slots Q (F0 m pc ls (iV 6 :: rest)) :=
  va_newq (D := G.2) (cl := vwCl) X.1 X.2.1 X.2.2.2.1 (X.2.2.2.2 _ hcl) hover hw.1 hw.2.2.1 (wd_D σ hw.2.1.1 hw.2.1.2) hw.2.2.2 hA (by decide +kernel) (by decide +kernel) (by decide) hc hsl d (fun q cA H1 hK hP hD hS => kk q cA H1 ⟨hK, hP, hD, hS⟩)
theorem x_astS {aK aV : Nat → Nat} {fq B0 : Nat} (X : CallFix p m c cc nL s args Ts own) (hw : Ws G ad A s H locs σ q cA f) (hZ : SK aK aV fq B0 s) (hAB : ∀ q, A q → B0 ≤ q) (i : Nat) (hi : i < 6) (hi2 : (Int32.ofInt (i : Nat)).toNatClampNeg = i) (d : decode cc pc = .ok (.aastore, 1))
    (kk : ∀ (H1 : Heap) (locs1 : List Loc), Ws G ad A s H1 locs1 σ q cA (va_up f i (some (aK i))) → W p l e R s m args below meth c H1 locs1 cells slots Q (F0 m (pc + 1) ls rest)) : W p l e R s m args below meth c H locs cells slots Q (F0 m pc ls (.ref (aK i) :: iV (i : Nat) :: .ref q :: rest)) := by
  refine vb_astq (D := G.2) (cl := vwCl) (E := "java/lang/String") (C := "java/lang/String") X.1 X.2.1 hw.1 hw.2.1 hw.2.2.1 hw.2.2.2 28 3 Ws_last rfl (vk_recv (hZ.1.narrow hAB) hi hw.2.2.2) (fun c1 c2 => vb_asgS c1 c2) (x_in (by rw [i32_id (by omega) (by omega)]; omega)) d (fun H1 locs1 hP hD hS => ?_)
  have e : ∀ x : Nat × va_E, (wd G LM ad σ ++ [(q, (.inl (cA, 6, .inr (.inr (.inr (.inr f)))) : va_E))]).set 28 x = wd G LM ad σ ++ [x] := fun x => by
    rw [List.set_append_right _ _ (by rw [wdM_len]; exact Nat.le_refl _), wdM_len]
    rfl
  rw [hi2, e] at hP hD
  exact kk H1 locs1 ⟨hw.1, hP, hD, hS⟩
theorem x_aaldS (X : CallFix p m c cc nL s args Ts own) (hw : Ws G ad A s H locs σ q cA f) (i a : Nat) (hi : i < 6) (hi2 : (Int32.ofInt (i : Nat)).toNatClampNeg = i) (hf : f i = some a) (d : decode cc pc = .ok (.aaload, 1)) (k : W p l e R s m args below meth c H locs cells slots Q (F0 m (pc + 1) ls (.ref a :: rest))) : W p l e R s m args below meth c H locs cells slots Q (F0 m pc ls (iV (i : Nat) :: .ref q :: rest)) := by
  refine va_aldq (D := G.2) (cl := vwCl) (C := "java/lang/String") X.1 X.2.1 hw.1 hw.2.1 28 3 Ws_last rfl (x_in (by rw [i32_id (by omega) (by omega)]; omega)) d ?_
  rw [hi2, hf]
  exact k
theorem x_iastS (X : CallFix p m c cc nL s args Ts own) (hw : Ws G ad A s H locs σ q cA f) {i v j : Int} (hj : i32 i = j) (hi : 0 ≤ j ∧ j < 204) (d : decode cc pc = .ok (.iastore, 1)) (kk : ∀ (H1 : Heap) (locs1 : List Loc) (σ1 : St), σ1 = ss σ 1 j v → Ws G ad A s H1 locs1 σ1 q cA f → W p l e R s m args below meth c H1 locs1 cells slots Q (F0 m (pc + 1) ls rest)) : W p l e R s m args below meth c H locs cells slots Q (F0 m pc ls (iV v :: iV i :: .ref (ad 1) :: rest)) := by
  subst hj
  have hget : (wd G LM ad σ)[1]? = some (ad 1, cE G ad (.inl (false, 204)) (σ 1)) := wd_get lm1
  refine va_iast (D := G.2) (cl := vwCl) X.1 X.2.1 hw.1 hw.2.1 hw.2.2.1 hw.2.2.2 1 0 (gl_app hget) rfl (x_in hi) d (fun H1 locs1 hP hD hS => ?_)
  have e1 : (upd (fun j : Nat => Int32.ofInt (σ 1 j)) (Int32.ofInt i).toNatClampNeg (Int32.ofInt v)) = (fun j : Nat => Int32.ofInt (if (j : Int) = i32 i then v else σ 1 j)) := by
    funext j
    have hc := x_cl hi.1
    by_cases hj : j = (Int32.ofInt i).toNatClampNeg
    · have h2 : (j : Int) = i32 i := by rw [hj]; exact hc
      simp [upd, ← hj, h2]
    · have h2 : ¬ (j : Int) = i32 i := fun z => hj (Int.ofNat.inj (z.trans hc.symm))
      simp [upd, hj, h2]
  have e2 : ∀ x : Nat × va_E, (wd G LM ad σ ++ [(q, (.inl (cA, 6, .inr (.inr (.inr (.inr f)))) : va_E))]).set 1 x = (wd G LM ad σ).set 1 x ++ [(q, .inl (cA, 6, .inr (.inr (.inr (.inr f)))))] := fun x => by
    rw [List.set_append_left _ _ (by rw [wdM_len]; decide)]
  rw [e1, e2] at hP hD
  have e3 : (wd G LM ad σ).set 1 (ad 1, Sum.inl (G.1.1, 204, Sum.inl (fun j : Nat => Int32.ofInt (if (j : Int) = i32 i then v else σ 1 j)))) = wd G LM ad (ss σ 1 (i32 i) v) := by
    rw [ss_sf, ← wd_set lm1]
    rfl
  rw [e3] at hP hD
  exact kk H1 locs1 _ rfl ⟨hw.1, hP, hD, hS⟩
end XW
-- the numbers that it tells at first
def g1 (u : St) : Nat → St
  | 0 => u
  | n + 1 => ss (g1 u n) 1 (2 + (n : Nat)) (-1)
def g2 (u : St) : Nat → St
  | 0 => u
  | n + 1 => ss (g2 u n) 1 (140 + (n : Nat)) 200
def fm (u : St) (k : Nat) : Nat → St
  | 0 => u
  | i + 1 => ss (fm u k i) 1 (86 + 9 * (k : Nat) + 1 + (i : Nat)) (byW k i).toInt
def km (u : St) : Nat → St
  | 0 => u
  | k + 1 => fm (ss (km u k) 1 (86 + 9 * (k : Nat)) ((lnW k : Nat) : Int)) k (lnW k)
theorem g1_1 {u v : St} (h : u 1 = v 1) (n : Nat) : g1 u n 1 = g1 v n 1 := by
  induction n with
  | zero => exact h
  | succ n ih => show ss (g1 u n) 1 _ _ 1 = ss (g1 v n) 1 _ _ 1; rw [ss_self, ss_self, ih]
theorem g1_o {u : St} {c : Nat} (hc : c ≠ 1) (n : Nat) : g1 u n c = u c := by
  induction n with
  | zero => rfl
  | succ n ih => show ss (g1 u n) 1 _ _ c = _; rw [ss_row _ hc, ih]
theorem g2_1 {u v : St} (h : u 1 = v 1) (n : Nat) : g2 u n 1 = g2 v n 1 := by
  induction n with
  | zero => exact h
  | succ n ih => show ss (g2 u n) 1 _ _ 1 = ss (g2 v n) 1 _ _ 1; rw [ss_self, ss_self, ih]
theorem g2_o {u : St} {c : Nat} (hc : c ≠ 1) (n : Nat) : g2 u n c = u c := by
  induction n with
  | zero => rfl
  | succ n ih => show ss (g2 u n) 1 _ _ c = _; rw [ss_row _ hc, ih]
theorem fm_1 {u v : St} (h : u 1 = v 1) (k n : Nat) : fm u k n 1 = fm v k n 1 := by
  induction n with
  | zero => exact h
  | succ n ih => show ss (fm u k n) 1 _ _ 1 = ss (fm v k n) 1 _ _ 1; rw [ss_self, ss_self, ih]
theorem fm_o {u : St} {c : Nat} (hc : c ≠ 1) (k n : Nat) : fm u k n c = u c := by
  induction n with
  | zero => rfl
  | succ n ih => show ss (fm u k n) 1 _ _ c = _; rw [ss_row _ hc, ih]
theorem km_1 {u v : St} (h : u 1 = v 1) (n : Nat) : km u n 1 = km v n 1 := by
  induction n with
  | zero => exact h
  | succ n ih => exact fm_1 (by rw [ss_self, ss_self, ih]) n (lnW n)
theorem km_o {u : St} {c : Nat} (hc : c ≠ 1) (n : Nat) : km u n c = u c := by
  induction n with
  | zero => rfl
  | succ n ih => show fm _ n (lnW n) c = _; rw [fm_o hc, ss_row _ hc, ih]
/-- what it holds at first -/
def sN (i : Nat) : Int := if i = 0 then 4 else if i < 2 then 0 else if i < 86 then -1 else if i < 140 then (if (i - 86) % 9 = 0 then wdl ((i - 86) / 9 : Nat) else wdc ((i - 86) / 9 : Nat) ((i - 86) % 9 - 1 : Nat)) else if i < 156 then 200 else 0
def endM (u : St) : St := km (g2 (g1 (ss u 1 0 4) 84) 16) 6
theorem endM_c : ∀ i, i < 204 → endM (fun _ _ => 0) 1 (i : Nat) = sN i := by decide +kernel
theorem endM_1 {u : St} (h : u 1 = fun _ => 0) (i : Nat) (hi : i < 204) : endM u 1 (i : Nat) = sN i := by
  rw [← endM_c i hi]
  have : endM u 1 = endM (fun _ _ => 0) 1 := km_1 (g2_1 (g1_1 (by rw [ss_self, ss_self, h]) 84) 16) 6
  rw [this]
theorem endM_o {u : St} {c : Nat} (hc : c ≠ 1) : endM u c = u c := by
  unfold endM
  rw [km_o hc, g2_o hc, g1_o hc, ss_row _ hc]
