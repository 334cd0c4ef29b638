-- THREAD
theorem fs_keep (t : Int) : ∀ (m : List CR) (x : Int × Int × Int), 0 ≤ x.2.2 → (m.foldl (fsS t) x).2.2 = x.2.2 := by
  intro m
  induction m with
  | nil => intro x _; rfl
  | cons r m ih =>
    intro x hx
    rw [List.foldl_cons]
    have e : (fsS t x r).2.2 = x.2.2 := by
      unfold fsS
      split
      · show (if x.2.1 = 1 ∧ x.2.2 < 0 then x.1 else x.2.2) = _
        rw [if_neg (by omega)]
      · split
        · show (if x.2.1 = 2 ∧ x.2.2 < 0 then x.1 else x.2.2) = _
          rw [if_neg (by omega)]
        · rfl
    rw [ih _ (by rw [e]; exact hx), e]
theorem Mfalse_ok {τ : St} {w : AW} {t : Int} {Q : Int → St → Prop} (hM : MW τ w) (hG : awG w) (hl : w.2.2.length ≤ 800) (rt : i32 t = t) (k : Q (fsT w.2.2 t).2.2 τ) : V_M_falseOf τ t Q := by
  unfold V_M_falseOf
  have D : ∀ n, crD (w.2.2.take n) := fun n r hr => hG.2.2 r (List.mem_of_mem_take hr)
  refine wl3 (fun i x3 x2 u => u = τ ∧ ∃ n : Nat, n ≤ w.2.2.length ∧ i = n ∧ (fsT (w.2.2.take n) t).2.2 = -1 ∧ x2 = (fsT (w.2.2.take n) t).1 ∧ ((fsT (w.2.2.take n) t).2.1 = 0 ∧ x3 = -1 ∨ (fsT (w.2.2.take n) t).2.1 = 1 ∧ x3 = 1 ∨ (fsT (w.2.2.take n) t).2.1 = 2 ∧ x3 = 0)) (fun i _ _ _ => (w.2.2.length - i).toNat) ⟨rfl, 0, by omega, rfl, rfl, rfl, Or.inl ⟨rfl, rfl⟩⟩ ?_
  intro bk i x3 x2 u hI hb
  obtain ⟨rfl, n, hn, rfl, i3, i4, i5⟩ := hI
  rw [hM.2.2.1, i32_id (x := (n : Int)) (by omega) (by omega), i32_id (x := (w.2.2.length : Int)) (by omega) (by omega)]
  refine ⟨fun hc => ?_, fun hc => ⟨⟨by omega, by omega⟩, ?_⟩⟩
  · have : n = w.2.2.length := by omega
    rw [this, List.take_length] at i3
    rw [i3] at k
    exact k
  · obtain ⟨r, m1, m2, m3, m4, m5, m6, m7, m8, m9, m10⟩ := MW_get hM hG (n := n) (by omega)
    have st : fsT (w.2.2.take (n + 1)) t = fsS t (fsT (w.2.2.take n) t) r := by rw [m10, fsT_snoc]
    have fin : 0 ≤ (fsT (w.2.2.take (n + 1)) t).2.2 → (fsT w.2.2 t).2.2 = (fsT (w.2.2.take (n + 1)) t).2.2 := by
      intro h
      have e : fsT w.2.2 t = (w.2.2.drop (n + 1)).foldl (fsS t) (fsT (w.2.2.take (n + 1)) t) := by
        unfold fsT
        rw [← List.foldl_append, List.take_append_drop]
      rw [e, fs_keep _ _ _ h]
    have c0 := fsT_ok (D n) t
    have c0' : 0 ≤ (fsT (w.2.2.take n) t).1 := by omega
    have x3r : x3 = -1 ∨ x3 = 0 ∨ x3 = 1 := by omega
    rw [m4, m5, m7, m8, rt]
    -- a pass on side y
    have j57 : ∀ (y sd : Int), (y = 1 ∧ sd = 1 ∨ y = 0 ∧ sd = 2) → fsS t (fsT (w.2.2.take n) t) r = ((fsT (w.2.2.take n) t).1 + 1, sd, if (fsT (w.2.2.take n) t).2.1 = sd ∧ (fsT (w.2.2.take n) t).2.2 < 0 then (fsT (w.2.2.take n) t).1 else (fsT (w.2.2.take n) t).2.2) → J_M_falseOf_57 Q n x3 x2 bk y u := by
      intro y sd hy hs
      unfold J_M_falseOf_57
      rw [i32_id (x := y) (by omega) (by omega), i32_id (x := x3) (by omega) (by omega)]
      refine ⟨fun hd => hb _ _ _ _ ⟨rfl, n + 1, by omega, by omega, ?_, ?_, ?_⟩ (by omega), fun hd => ?_⟩
      · rw [st, hs]
        show (if _ then _ else _) = _
        rw [if_neg (by omega)]
        exact i3
      · rw [st, hs, i4]
      · rw [st, hs]
        show sd = 0 ∧ _ ∨ sd = 1 ∧ _ ∨ sd = 2 ∧ _
        omega
      · have e : (fsT (w.2.2.take (n + 1)) t).2.2 = (fsT (w.2.2.take n) t).1 := by
          rw [st, hs]
          show (if _ then _ else _) = _
          rw [if_pos (by omega)]
        rw [fin (by rw [e]; exact c0'), e, ← i4] at k
        exact k
    have j41 : r.2.2.1 = t ∨ r.2.2.2.1 = t → J_M_falseOf_41 t Q n x3 x2 bk u := by
      intro hor
      unfold J_M_falseOf_41
      rw [i32_id (x := (n : Int)) (by omega) (by omega), m4, m7, rt]
      refine ⟨⟨by omega, by omega⟩, fun z => j57 0 2 (Or.inr ⟨rfl, rfl⟩) ?_, fun z => j57 1 1 (Or.inl ⟨rfl, rfl⟩) ?_⟩
      · unfold fsS
        rw [if_neg z, if_pos (by omega)]
      · unfold fsS
        rw [if_pos z]
    refine ⟨fun z => j41 (Or.inl z), fun z => ⟨⟨by omega, by omega⟩, fun z2 => j41 (Or.inr z2), fun z2 => hb _ _ _ _ ⟨rfl, n + 1, by omega, by omega, ?_⟩ (by omega)⟩⟩
    have e : fsS t (fsT (w.2.2.take n) t) r = fsT (w.2.2.take n) t := by
      unfold fsS
      rw [if_neg z, if_neg z2]
    rw [st, e]
    exact ⟨i3, i4, i5⟩
theorem Movers_ok {τ : St} {w : AW} {t ov : Int} {Q : Int → St → Prop} (hM : MW τ w) (hG : awG w) (hl : w.2.2.length ≤ 800) (rt : i32 t = t) (ho : ov = 0 ∨ ov = 1) (k : Q (if ov = 1 then cOv w.2.2 t else cUn w.2.2 t) τ) : V_M_overs τ t ov Q := by
  unfold V_M_overs
  refine wl2 (fun i y u => u = τ ∧ ∃ n : Nat, n ≤ w.2.2.length ∧ i = n ∧ y = if ov = 1 then cOv (w.2.2.take n) t else cUn (w.2.2.take n) t) (fun i _ _ => (w.2.2.length - i).toNat) ⟨rfl, 0, by omega, rfl, by simp [cOv, cUn]⟩ ?_
  intro bk i y u hI hb
  obtain ⟨rfl, n, hn, rfl, rfl⟩ := hI
  rw [hM.2.2.1, i32_id (x := (n : Int)) (by omega) (by omega), i32_id (x := (w.2.2.length : Int)) (by omega) (by omega), i32_id (x := ov) (by omega) (by omega)]
  refine ⟨fun hc => ?_, fun hc => ?_⟩
  · have : n = w.2.2.length := by omega
    rw [this, List.take_length]
    exact k
  · obtain ⟨r, m1, m2, m3, m4, m5, m6, m7, m8, m9, m10⟩ := MW_get hM hG (n := n) (by omega)
    rw [m4, m5]
    refine ⟨fun hd => ⟨⟨by omega, by omega⟩, ?_⟩, fun hd => ⟨⟨by omega, by omega⟩, ?_⟩⟩
    · rw [if_neg (by omega)]
      unfold J_M_overs_36
      rw [m8, rt]
      refine ⟨fun z v hv => hb _ _ _ ⟨rfl, n + 1, by omega, by omega, ?_⟩ (by omega), fun z v hv => hb _ _ _ ⟨rfl, n + 1, by omega, by omega, ?_⟩ (by omega)⟩
      · rw [hv, if_neg (by omega), m10, cUn_snoc, if_neg z]
      · rw [hv, if_neg (by omega), m10, cUn_snoc, if_pos z]
    · rw [if_pos (by omega)]
      unfold J_M_overs_36
      rw [m7, rt]
      refine ⟨fun z v hv => hb _ _ _ ⟨rfl, n + 1, by omega, by omega, ?_⟩ (by omega), fun z v hv => hb _ _ _ ⟨rfl, n + 1, by omega, by omega, ?_⟩ (by omega)⟩
      · rw [hv, if_pos (by omega), m10, cOv_snoc, if_neg z]
      · rw [hv, if_pos (by omega), m10, cOv_snoc, if_pos z]
theorem op_thread {σ τ : St} (hR : Rel σ τ) {a1 a2 : Int} (r1 : i32 a1 = a1) (r2 : i32 a2 = a2) : V_P_thread σ a1 a2 (fun r σ' => V_M_thread τ a1 a2 (fun r' τ' => i32 r = i32 r' ∧ Rel σ' τ')) := by
  obtain ⟨pl1, pl2, pl3⟩ := hR.pl
  obtain ⟨l1, l2, l3⟩ := len_GC hR
  have p1 := hR.2.1
  have p2 := hR.2.2.1
  have p5 := hR.2.2.2.2.2.1
  have c7 : i64 7 = 7 := i64_id (by decide) (by decide)
  have bad : ¬ (0 ≤ a1 ∧ a1 < 2 * τ 1 0 ∧ 0 ≤ a2 ∧ a2 ≤ 7) → V_P_fail σ 1 (fun r σ' => V_M_thread τ a1 a2 (fun r' τ' => i32 r = i32 r' ∧ Rel σ' τ')) := by
    intro hc
    refine both_fail (e := -1000000001) hR (by decide) (by decide) (by decide) (VM := fun τ Q => V_M_thread τ a1 a2 Q) (fun Q hQ => ?_)
    unfold V_M_thread
    refine MisThread_ok r1 rfl pl2 pl3 (fun z => ⟨fun w => absurd w n10, fun _ => ?_⟩) (fun _ => ⟨fun _ => hQ, fun w => absurd z00 w⟩)
    rw [r2]
    exact in_ok (i64_of32 r2) k64_0 c7 (fun y => absurd (by omega) hc) (fun _ => ⟨fun w => absurd z00 w, fun _ => hQ⟩)
  unfold V_P_thread
  rw [r1, r2]
  refine isThread_ok r1 pl1 pl2 pl3 (fun h1 => ⟨fun w => absurd w n10, fun _ => ⟨fun z => bad (by omega), fun z => ⟨fun y => ?_, fun y => bad (by omega)⟩⟩⟩) (fun h1 => ⟨fun _ => bad (by omega), fun w => absurd z00 w⟩)
  have mgo : ∀ Q : Int → St → Prop, (3 ≤ a2 → J_M_thread_38 a1 a2 Q 1 τ) → (a2 < 3 → J_M_thread_38 a1 a2 Q 0 τ) → V_M_thread τ a1 a2 Q := by
    intro Q q1 q0
    unfold V_M_thread
    refine MisThread_ok r1 rfl pl2 pl3 (fun _ => ⟨fun w => absurd w n10, fun _ => ?_⟩) (fun w => absurd h1 w)
    rw [r2]
    exact in_ok (i64_of32 r2) k64_0 c7 (fun _ => ⟨fun _ => ⟨q1, q0⟩, fun w => absurd w n10⟩) (fun w => absurd ⟨z, y⟩ w)
  have i140 : i32 (140 + a1) = 140 + a1 := i32_id (by omega) (by omega)
  have e5 : σ 5 a1 = τ 1 (140 + a1) := p2.2.2.2.2.1 a1 (by omega) (by omega)
  have e32 : σ 32 a1 = (wkA (τ 1)).2.1 a1 := (p5.2.2.1.1 a1 (by omega) (by omega)).1
  have low : ∀ (r : Int), a2 < 3 → (∀ v, MW v (wkA (τ 1)) → v 1 = τ 1 → ((a2 = 0 → i32 r = i32 (τ 1 (140 + a1))) ∧ (a2 = 1 → i32 r = i32 (τ 1 (140 + a1) - (wkA (τ 1)).2.1 a1)) ∧ (a2 = 2 → 0 ≤ r ∧ r < 16 ∧ (wkA (τ 1)).1 r = a1))) → V_M_thread τ a1 a2 (fun r' τ' => i32 r = i32 r' ∧ Rel σ τ') := by
    intro r h3 hv
    refine mgo _ (fun w => by omega) (fun _ => ?_)
    unfold J_M_thread_38 V_M_whole
    refine ⟨fun w => absurd z00 w, fun _ => Mwork hR (fun v m g => ?_)⟩
    have v1 : v 1 = τ 1 := g.1 1 (by decide) (by decide)
    have hR' := hR.fm (mw_sc g)
    obtain ⟨b1, b2, b3⟩ := hv v m v1
    rw [r1, r2, i140]
    dsimp only
    rw [v1, m.2.1 a1 (by omega) (by omega)]
    refine ⟨fun w => ⟨⟨by omega, by omega⟩, b1 w, hR'⟩, fun w => ⟨⟨by omega, by omega⟩, ⟨by omega, by omega⟩, b2 w, hR'⟩, fun w => ?_, fun w => by omega, fun w => by omega, fun w => by omega, fun w => by omega, fun w => by omega⟩
    obtain ⟨q1, q2, q3⟩ := b3 w
    exact MplaceOf_ok m (wkA_g p1).1.1 r1 q1 q2 q3 ⟨rfl, hR'⟩
  refine ⟨fun n0 => ⟨fun n1 => ⟨fun n2 => ?_, fun e2 => ⟨⟨by omega, by omega⟩, low _ (by omega) (fun v m v1 => ⟨fun w => by omega, fun w => by omega, fun _ => p5.2.1 a1 (by omega) (by omega)⟩)⟩⟩, fun e1 => ⟨⟨by omega, by omega⟩, ⟨by omega, by omega⟩, low _ (by omega) (fun v m v1 => ⟨fun w => by omega, fun _ => by rw [e5, e32], fun w => by omega⟩)⟩⟩, fun e0 => ⟨⟨by omega, by omega⟩, low _ (by omega) (fun v m v1 => ⟨fun _ => by rw [e5], fun w => by omega, fun w => by omega⟩)⟩⟩
  rw [l1]
  refine think_ok hR (by omega) (by omega) (fun s hs c f => ?_)
  obtain ⟨c1, c2⟩ := CW_prm c
  obtain ⟨wg, wl⟩ := alA_g p1 ((stS (τ 1)).length : Int).toNat (by omega)
  have hp := c.2.2.1.1 a1 (by omega) (by omega)
  have high : ∀ (r : Int), (∀ v, MW v (alA (τ 1) ((stS (τ 1)).length : Int).toNat) → Rel s v → ((a2 = 3 → V_M_roundsOf v a1 (fun r13 τ' => i32 r = i32 r13 ∧ Rel s τ')) ∧ (a2 = 4 → i32 r = i32 ((alA (τ 1) ((stS (τ 1)).length : Int).toNat).2.1 a1)) ∧ (a2 = 5 → r = cOv (alA (τ 1) ((stS (τ 1)).length : Int).toNat).2.2 a1) ∧ (a2 = 6 → r = cUn (alA (τ 1) ((stS (τ 1)).length : Int).toNat).2.2 a1) ∧ (a2 = 7 → r = (fsT (alA (τ 1) ((stS (τ 1)).length : Int).toNat).2.2 a1).2.2))) → V_M_thread τ a1 a2 (fun r' τ' => i32 r = i32 r' ∧ Rel s τ') := by
    intro r hv
    refine mgo _ (fun _ => ?_) (fun w => by omega)
    unfold J_M_thread_38 V_M_whole
    rw [l2]
    refine ⟨fun _ => Mfirst' hR (by omega) (by omega) (fun v m g => ?_), fun w => absurd w n10⟩
    have hR' := hs.fm (mw_sc g)
    obtain ⟨b3, b4, b5, b6, b7⟩ := hv v m hR'
    rw [r1, r2]
    refine ⟨fun w => by omega, fun w => by omega, fun w => by omega, b3, fun w => ⟨⟨by omega, by omega⟩, ?_, hR'⟩, fun w => ?_, fun w => ?_, fun w => ?_⟩
    · rw [m.2.1 a1 (by omega) (by omega)]; exact b4 w
    · refine Movers_ok m wg (by omega) r1 (Or.inr rfl) ⟨?_, hR'⟩
      rw [if_pos rfl, b5 w]
    · refine Movers_ok m wg (by omega) r1 (Or.inl rfl) ⟨?_, hR'⟩
      rw [if_neg (by decide), b6 w]
    · refine Mfalse_ok m wg (by omega) r1 ⟨?_, hR'⟩
      rw [b7 (by omega)]
  refine ⟨fun e3 => ?_, fun e4 => ⟨⟨by omega, by omega⟩, high _ (fun v m hR' => ⟨fun w => by omega, fun _ => by rw [hp.1], fun w => by omega, fun w => by omega, fun w => by omega⟩)⟩, fun e => ⟨⟨by omega, by omega⟩, high _ (fun v m hR' => ⟨fun w => by omega, fun w => by omega, fun _ => hp.2.1, fun w => by omega, fun w => by omega⟩)⟩, fun e => ⟨⟨by omega, by omega⟩, high _ (fun v m hR' => ⟨fun w => by omega, fun w => by omega, fun w => by omega, fun _ => hp.2.2.1, fun w => by omega⟩)⟩, fun e => ⟨⟨by omega, by omega⟩, high _ (fun v m hR' => ⟨fun w => by omega, fun w => by omega, fun w => by omega, fun w => by omega, fun _ => hp.2.2.2.1⟩)⟩⟩
  obtain ⟨n, hn⟩ := cyc c1 (t := a1) (by omega) (by omega)
  refine turnsOf_ok c1 (by omega) (by omega) hn (high _ (fun v m hR' => ⟨fun _ => ?_, fun w => by omega, fun w => by omega, fun w => by omega, fun w => by omega⟩))
  exact MroundsOf_ok m wg.1 c1 (fun t a b => (c2 t a b).2.2) (by omega) (by omega) hn ⟨rfl, hR'⟩
