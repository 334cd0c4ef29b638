-- TEXT: the words' strings, that nobody changes
def rN : Nat → Value
  | 0 => .null
  | k + 1 => .ref k
def lenS : List Nat := [3, 2, 4, 1, 3, 2]
def bytS : List (List Int32) := [[99, 116, 99], [99, 116], [99, 116, 99, 116], [116], [116, 99, 116], [99, 99]]
def txS : Nat → String
  | 0 => "ctc"
  | 1 => "ct"
  | 2 => "ctct"
  | 3 => "t"
  | 4 => "tct"
  | _ => "cc"
abbrev lnW (i : Nat) : Nat := lenS.getD i 0
def byW (i k : Nat) : Int32 := (bytS.getD i []).getD k 0
/-- what is known of the strings -/
def SK (aK aV : Nat → Nat) (fq B0 : Nat) (U : State) : Prop := vk_S 6 lenS bytS aK aV (fun q => B0 ≤ q) U U.heap ∧ va_Z "java/lang/String" "COMPACT_STRINGS" "Z" (.int 1) (fun q => B0 ≤ q) U U.heap ∧ va_Z "jdk/internal/util/Preconditions" "SIOOBE_FORMATTER" "Ljava/util/function/BiFunction;" (rN fq) (fun q => B0 ≤ q) U U.heap
theorem SK.blind {aK aV : Nat → Nat} {fq B0 : Nat} {U : State} (h : SK aK aV fq B0 U) (g : JFrame) (mk : MethodId) (a : Array Value) : SK aK aV fq B0 (U.calling g mk a) :=
  ⟨vk_S.moved (u := U) (U := U.calling g mk a) (Vm.Alike.refl U.vm) h.1, va_Z.moved (u := U) (U := U.calling g mk a) (Vm.Alike.refl U.vm) h.2.1, va_Z.moved (u := U) (U := U.calling g mk a) (Vm.Alike.refl U.vm) h.2.2⟩
theorem SK.to {aK aV : Nat → Nat} {fq B0 : Nat} {s U : State} {A : Nat → Prop} {H : Heap} {locs : List Loc} (h : SK aK aV fq B0 s) (hA : ∀ q, A q → B0 ≤ q) (hS : va_S A s.heap H locs) (hU : U.heap = H) (hW : s.WarmedH U.vm) : SK aK aV fq B0 U := by
  have hq : ∀ a : Nat, a < s.heap.size → ¬ B0 ≤ a → U.heap[a]? = s.heap[a]? := fun a h1 h2 => by rw [hU]; exact hS.2.1 a h1 (fun z => h2 (hA a z))
  exact ⟨vk_S.moved hW.alike (h.1.kept hq), va_Z.moved hW.alike (h.2.1.kept hq), va_Z.moved hW.alike (h.2.2.kept hq)⟩
abbrev no : Nat → Prop := fun _ => False
def Ti (r : Int32) : Array Value → State → Outcome → State → Prop := va_Qi (fun (x : Int32) (_ : Unit) => x = r) (fun _ _ => True) no
def Tp (av : List Value) (aK aV : Nat → Nat) (fq B0 : Nat) : Array Value → State → Prop := va_Pc av (fun U => SK aK aV fq B0 U)
theorem Tp_blind {av : List Value} {aK aV : Nat → Nat} {fq B0 : Nat} : FrameBlind (Tp av aK aV fq B0) := fun a U g mk q => ⟨q.1, q.2.blind g mk a⟩
section TX
variable {aK aV : Nat → Nat} {fq B0 : Nat}
set_option maxHeartbeats 1000000 in
theorem c_coder (l : Launch) (i : Nat) (hi : i < 6) : Met l yJ0_coder_7d493 wsJ0_coder_7d493 (rmx 0 0) (Tp [.ref (aK i)] aK aV fq B0) (Ti 0) 0 0 no := by
  refine Met.ofW (cc := cJ0_coder_7d493) (maxL := 1) (ret := some .byte) (by decide) rfl ?_
  intro p e s m args below meth c s₁ B hml hv
  obtain ⟨rfl, hZ⟩ := hv
  have hx := B.exec
  have hb := B.bytes
  have hr := B.returns
  have hts := atoms_spec (ws := wsJ0_coder_7d493) B.pre
  have hown : s.vm.findClass RJ0 = some m.cls := findClass_of_methodNamed B.named
  have hlocks := B.notSynchronized
  have hS : va_S no s.heap s.heap [] := va_S.rf
  have h1 := hZ.1.narrow (B := no) (fun q h => h.elim)
  have h2 := hZ.2.1.narrow (B := no) (fun q h => h.elim)
  have hl := lv_entry [Value.ref (aK i)] (n := 1) (Nat.le_of_ble_eq_true rfl)
  rw [lg_entry_eq]
  generalize (lg_sl [Value.ref (aK i)] ++ List.replicate (1 - (lg_sl [Value.ref (aK i)]).length) Slot.unset).toArray = ls at hl ⊢
  have hl : lv_has ls 1 [(0, .ref (aK i))] := hl
  refine va_gets hx hb h2 hS hown (hts (.fieldLink RJ0 38 "java/lang/String" "COMPACT_STRINGS" "Z") (by decide +kernel)) (fun _ h => h) dJ0_coder_7d493_0 ?_
  refine lv_if_eq (tgt := 13) hx hb dJ0_coder_7d493_3 (by decide) (fun h => absurd h (by decide)) (fun _ => ?_)
  refine lv_aload_n hx hb dJ0_coder_7d493_6 rfl (lv_at hl 0 rfl) ?_
  refine vk_getf hx hb (h1.1 i hi).2.1 hS hown (hts (.fieldLink RJ0 15 "java/lang/String" "coder" "B") (by decide +kernel)) (fun _ h => h) dJ0_coder_7d493_7 ?_
  refine lv_goto (tgt := 14) hx hb dJ0_coder_7d493_10 (by decide) ?_
  exact W.zret hx hb hr rfl (fun t ht hW => ⟨⟨0, (), rfl, rfl, trivial⟩, hS.F ht⟩) (fun _ h => by cases h) dJ0_coder_7d493_14
set_option maxHeartbeats 1000000 in
theorem c_isLatin1 (l : Launch) (i : Nat) (hi : i < 6) : Met l yJ0_isLatin1_aae02 wsJ0_isLatin1_aae02 (rmx 0 0) (Tp [.ref (aK i)] aK aV fq B0) (Ti 1) 0 0 no := by
  refine Met.ofW (cc := cJ0_isLatin1_aae02) (maxL := 1) (ret := some .boolean) (by decide) rfl ?_
  intro p e s m args below meth c s₁ B hml hv
  obtain ⟨rfl, hZ⟩ := hv
  have hx := B.exec
  have hb := B.bytes
  have hr := B.returns
  have hts := atoms_spec (ws := wsJ0_isLatin1_aae02) B.pre
  have hown : s.vm.findClass RJ0 = some m.cls := findClass_of_methodNamed B.named
  have hlocks := B.notSynchronized
  have hS : va_S no s.heap s.heap [] := va_S.rf
  have h1 := hZ.1.narrow (B := no) (fun q h => h.elim)
  have h2 := hZ.2.1.narrow (B := no) (fun q h => h.elim)
  have hl := lv_entry [Value.ref (aK i)] (n := 1) (Nat.le_of_ble_eq_true rfl)
  rw [lg_entry_eq]
  generalize (lg_sl [Value.ref (aK i)] ++ List.replicate (1 - (lg_sl [Value.ref (aK i)]).length) Slot.unset).toArray = ls at hl ⊢
  have hl : lv_has ls 1 [(0, .ref (aK i))] := hl
  refine va_gets hx hb h2 hS hown (hts (.fieldLink RJ0 38 "java/lang/String" "COMPACT_STRINGS" "Z") (by decide +kernel)) (fun _ h => h) dJ0_isLatin1_aae02_0 ?_
  refine lv_if_eq (tgt := 17) hx hb dJ0_isLatin1_aae02_3 (by decide) (fun h => absurd h (by decide)) (fun _ => ?_)
  refine lv_aload_n hx hb dJ0_isLatin1_aae02_6 rfl (lv_at hl 0 rfl) ?_
  refine vk_getf hx hb (h1.1 i hi).2.1 hS hown (hts (.fieldLink RJ0 15 "java/lang/String" "coder" "B") (by decide +kernel)) (fun _ h => h) dJ0_isLatin1_aae02_7 ?_
  refine lv_if_ne (tgt := 17) hx hb dJ0_isLatin1_aae02_10 (by decide) (fun h => absurd rfl h) (fun _ => ?_)
  refine lv_iconst (v := 1) hx hb dJ0_isLatin1_aae02_13 (by decide) ?_
  refine lv_goto (tgt := 18) hx hb dJ0_isLatin1_aae02_14 (by decide) ?_
  exact W.zret hx hb hr rfl (fun t ht hW => ⟨⟨1, (), rfl, rfl, trivial⟩, hS.F ht⟩) (fun _ h => by cases h) dJ0_isLatin1_aae02_18
theorem lnW_shr : ∀ i, i < 6 → Int32.ofNat (lnW i) >>> ((0 : Int32) &&& 31) = Int32.ofNat (lnW i) := by decide +kernel
set_option maxHeartbeats 1000000 in
theorem c_length (l : Launch) (i : Nat) (hi : i < 6) : Met l yJ0_length_8abf5 wsJ0_length_8abf5 (rmx 1 20) (Tp [.ref (aK i)] aK aV fq B0) (Ti (Int32.ofNat (lnW i))) 0 0 no := by
  refine Met.ofW (cc := cJ0_length_8abf5) (maxL := 1) (ret := some .int) (by decide) rfl ?_
  intro p e s m args below meth c s₁ B hml hv
  obtain ⟨rfl, hZ⟩ := hv
  have hx := B.exec
  have hb := B.bytes
  have hr := B.returns
  have hts := atoms_spec (ws := wsJ0_length_8abf5) B.pre
  have hown : s.vm.findClass RJ0 = some m.cls := findClass_of_methodNamed B.named
  have hlocks := B.notSynchronized
  have hS : va_S no s.heap s.heap [] := va_S.rf
  have h1 := hZ.1.narrow (B := no) (fun q h => h.elim)
  have hl := lv_entry [Value.ref (aK i)] (n := 1) (Nat.le_of_ble_eq_true rfl)
  rw [lg_entry_eq]
  generalize (lg_sl [Value.ref (aK i)] ++ List.replicate (1 - (lg_sl [Value.ref (aK i)]).length) Slot.unset).toArray = ls at hl ⊢
  have hl : lv_has ls 1 [(0, .ref (aK i))] := hl
  refine lv_aload_n hx hb dJ0_length_8abf5_0 rfl (lv_at hl 0 rfl) ?_
  refine vk_getf hx hb (h1.1 i hi).2.2.1 hS hown (hts (.fieldLink RJ0 9 "java/lang/String" "value" "[B") (by decide +kernel)) (fun _ h => h) dJ0_length_8abf5_1 ?_
  refine va_tlen hx hb (h1.1 i hi).2.2.2 hS rfl dJ0_length_8abf5_4 ?_
  refine lv_aload_n hx hb dJ0_length_8abf5_5 rfl (lv_at hl 0 rfl) ?_
  refine va_calli (va_runV (As := []) (rest := [.int (Int32.ofNat (lnW i))]) ⟨hx, hb, hml, hown, hts⟩ (c_coder (aV := aV) (fq := fq) (B0 := B0) l i hi) (cwV 0 hts gJ0_length_8abf5_J0_coder_7d493 rfl rfl rfl (by decide +kernel) ⟨Nat.le_of_ble_eq_true rfl, Nat.le_of_ble_eq_true rfl⟩) ⟨Tp_blind, vk_recv h1 hi hS, fun U hU hW => ⟨rfl, hZ.to (fun q h => h.elim) hS hU hW⟩⟩ rfl rfl hl.1 rfl (lv_room (Nat.le_of_ble_eq_true rfl)) dJ0_length_8abf5_6 ⟨Nat.le_of_ble_eq_true rfl, Nat.le_of_ble_eq_true rfl⟩) hS (fun q _ h => h.elim) (fun q h => h.elim) (fun r u t H1 locs ht hvm hw hB hz hk hS => ?_)
  have hw : r = 0 := hw
  subst hw
  refine lv_ishr hx hb dJ0_length_8abf5_9 ?_
  rw [lnW_shr i hi]
  exact W.iret hx hb hr (fun t ht hW => ⟨⟨_, (), rfl, rfl, trivial⟩, hS.F ht⟩) (fun q h => hS.2.2 q h) dJ0_length_8abf5_10
set_option maxHeartbeats 1000000 in
theorem c_preCheck0 (l : Launch) (x n : Int32) (h0 : ¬ x < 0) (h1 : x < n) : Met l yJ3_checkIndex_8e157 wsJ3_checkIndex_8e157 (rmx 0 0) (Tp [.int x, .int n, .null] aK aV 0 B0) (Ti x) 0 0 no := by
  refine Met.ofW (cc := cJ3_checkIndex_8e157) (maxL := 3) (ret := some .int) (by decide) rfl ?_
  intro p e s m args below meth c s₁ B hml hv
  obtain ⟨rfl, hZ⟩ := hv
  have hx := B.exec
  have hb := B.bytes
  have hr := B.returns
  have hlocks := B.notSynchronized
  have hS : va_S no s.heap s.heap [] := va_S.rf
  have hl := lv_entry [Value.int x, .int n, .null] (n := 3) (Nat.le_of_ble_eq_true rfl)
  rw [lg_entry_eq]
  generalize (lg_sl [Value.int x, .int n, .null] ++ List.replicate (3 - (lg_sl [Value.int x, .int n, .null]).length) Slot.unset).toArray = ls at hl ⊢
  have hl : lv_has ls 3 [(0, .int x), (1, .int n), (2, .null)] := hl
  refine lv_iload_n hx hb dJ3_checkIndex_8e157_0 rfl (lv_at hl 0 rfl) ?_
  refine lv_if_lt (tgt := 9) hx hb dJ3_checkIndex_8e157_1 (by decide) (fun h => absurd h h0) (fun _ => ?_)
  refine lv_iload_n hx hb dJ3_checkIndex_8e157_4 rfl (lv_at hl 0 rfl) ?_
  refine lv_iload_n hx hb dJ3_checkIndex_8e157_5 rfl (lv_at hl 1 rfl) ?_
  refine lv_icmp_lt (tgt := 16) hx hb dJ3_checkIndex_8e157_6 (by decide) (fun _ => ?_) (fun h => absurd h1 h)
  refine lv_iload_n hx hb dJ3_checkIndex_8e157_16 rfl (lv_at hl 0 rfl) ?_
  exact W.iret hx hb hr (fun t ht hW => ⟨⟨_, (), rfl, rfl, trivial⟩, hS.F ht⟩) (fun _ h => by cases h) dJ3_checkIndex_8e157_17
set_option maxHeartbeats 1000000 in
theorem c_preCheckS (k : Nat) (l : Launch) (x n : Int32) (h0 : ¬ x < 0) (h1 : x < n) : Met l yJ3_checkIndex_8e157 wsJ3_checkIndex_8e157 (rmx 0 0) (Tp [.int x, .int n, .ref k] aK aV (k + 1) B0) (Ti x) 0 0 no := by
  refine Met.ofW (cc := cJ3_checkIndex_8e157) (maxL := 3) (ret := some .int) (by decide) rfl ?_
  intro p e s m args below meth c s₁ B hml hv
  obtain ⟨rfl, hZ⟩ := hv
  have hx := B.exec
  have hb := B.bytes
  have hr := B.returns
  have hlocks := B.notSynchronized
  have hS : va_S no s.heap s.heap [] := va_S.rf
  have hl := lv_entry [Value.int x, .int n, .ref k] (n := 3) (Nat.le_of_ble_eq_true rfl)
  rw [lg_entry_eq]
  generalize (lg_sl [Value.int x, .int n, .ref k] ++ List.replicate (3 - (lg_sl [Value.int x, .int n, .ref k]).length) Slot.unset).toArray = ls at hl ⊢
  have hl : lv_has ls 3 [(0, .int x), (1, .int n), (2, .ref k)] := hl
  refine lv_iload_n hx hb dJ3_checkIndex_8e157_0 rfl (lv_at hl 0 rfl) ?_
  refine lv_if_lt (tgt := 9) hx hb dJ3_checkIndex_8e157_1 (by decide) (fun h => absurd h h0) (fun _ => ?_)
  refine lv_iload_n hx hb dJ3_checkIndex_8e157_4 rfl (lv_at hl 0 rfl) ?_
  refine lv_iload_n hx hb dJ3_checkIndex_8e157_5 rfl (lv_at hl 1 rfl) ?_
  refine lv_icmp_lt (tgt := 16) hx hb dJ3_checkIndex_8e157_6 (by decide) (fun _ => ?_) (fun h => absurd h1 h)
  refine lv_iload_n hx hb dJ3_checkIndex_8e157_16 rfl (lv_at hl 0 rfl) ?_
  exact W.iret hx hb hr (fun t ht hW => ⟨⟨_, (), rfl, rfl, trivial⟩, hS.F ht⟩) (fun _ h => by cases h) dJ3_checkIndex_8e157_17
theorem c_preCheck (l : Launch) (x n : Int32) (h0 : ¬ x < 0) (h1 : x < n) : Met l yJ3_checkIndex_8e157 wsJ3_checkIndex_8e157 (rmx 0 0) (Tp [.int x, .int n, rN fq] aK aV fq B0) (Ti x) 0 0 no :=
  match fq with
  | 0 => c_preCheck0 l x n h0 h1
  | k + 1 => c_preCheckS k l x n h0 h1
def Tv : Array Value → State → Outcome → State → Prop := va_Qv (fun (_ : Unit) => True) (fun _ _ => True) no
set_option maxHeartbeats 1000000 in
theorem c_strCheck (l : Launch) (x n : Int32) (h0 : ¬ x < 0) (h1 : x < n) : Met l yJ0_checkIndex_df160 wsJ0_checkIndex_df160 (rmx 1 22) (Tp [.int x, .int n] aK aV fq B0) Tv 0 0 no := by
  refine Met.ofW (cc := cJ0_checkIndex_df160) (maxL := 2) (ret := none) (by decide) rfl ?_
  intro p e s m args below meth c s₁ B hml hv
  obtain ⟨rfl, hZ⟩ := hv
  have hx := B.exec
  have hb := B.bytes
  have hr := B.returns
  have hts := atoms_spec (ws := wsJ0_checkIndex_df160) B.pre
  have hown : s.vm.findClass RJ0 = some m.cls := findClass_of_methodNamed B.named
  have hlocks := B.notSynchronized
  have hS : va_S no s.heap s.heap [] := va_S.rf
  have h3 := hZ.2.2.narrow (B := no) (fun q h => h.elim)
  have hl := lv_entry [Value.int x, .int n] (n := 2) (Nat.le_of_ble_eq_true rfl)
  rw [lg_entry_eq]
  generalize (lg_sl [Value.int x, .int n] ++ List.replicate (2 - (lg_sl [Value.int x, .int n]).length) Slot.unset).toArray = ls at hl ⊢
  have hl : lv_has ls 2 [(0, .int x), (1, .int n)] := hl
  refine lv_iload_n hx hb dJ0_checkIndex_df160_0 rfl (lv_at hl 0 rfl) ?_
  refine lv_iload_n hx hb dJ0_checkIndex_df160_1 rfl (lv_at hl 1 rfl) ?_
  refine va_gets hx hb h3 hS hown (hts (.fieldLink RJ0 1053 "jdk/internal/util/Preconditions" "SIOOBE_FORMATTER" "Ljava/util/function/BiFunction;") (by decide +kernel)) (fun _ h => h) dJ0_checkIndex_df160_2 ?_
  refine va_calli (va_runS (As := [.int x, .int n, rN fq]) (rest := []) ⟨hx, hb, hml, hown, hts⟩ (c_preCheck (aK := aK) (aV := aV) (fq := fq) (B0 := B0) l x n h0 h1) (va_cwS 3 hts gJ0_checkIndex_df160_J3_checkIndex_8e157 rfl rfl rfl (by decide +kernel) ⟨Nat.le_of_ble_eq_true rfl, Nat.le_of_ble_eq_true rfl⟩) ⟨Tp_blind, fun U hU hW => ⟨rfl, hZ.to (fun q h => h.elim) hS hU hW⟩⟩ rfl rfl hl.1 rfl (lv_room (Nat.le_of_ble_eq_true rfl)) dJ0_checkIndex_df160_5 ⟨Nat.le_of_ble_eq_true rfl, Nat.le_of_ble_eq_true rfl⟩) hS (fun q _ h => h.elim) (fun q h => h.elim) (fun r u t H1 locs ht hvm hw hB hz hk hS => ?_)
  refine lv_pop hx hb dJ0_checkIndex_df160_8 rfl ?_
  exact W.vret hx hb hr (fun t ht hW => ⟨⟨(), rfl, trivial, trivial⟩, hS.F ht⟩) (fun q h => hS.2.2 q h) dJ0_checkIndex_df160_9
theorem byW_c : ∀ i, i < 6 → ∀ k, k < lnW i → ((byW i k &&& 255).toUInt32 % 65536).toInt32 = byW i k ∧ narrow .char (.int (byW i k)) = .int (byW i k) ∧ ¬ Int32.ofNat k < 0 ∧ Int32.ofNat k < Int32.ofNat (lnW i) ∧ (Int32.ofNat k).toNatClampNeg = k := by decide +kernel
set_option maxHeartbeats 1000000 in
theorem c_latCharAt (l : Launch) (i k : Nat) (hi : i < 6) (hk : k < lnW i) : Met l yJ1_charAt_3b067 wsJ1_charAt_3b067 (rmx 2 43) (Tp [.ref (aV i), .int (Int32.ofNat k)] aK aV fq B0) (Ti (byW i k)) 0 0 no := by
  obtain ⟨e1, e2, e3, e4, e5⟩ := byW_c i hi k hk
  refine Met.ofW (cc := cJ1_charAt_3b067) (maxL := 2) (ret := some .char) (by decide) rfl ?_
  intro p e s m args below meth c s₁ B hml hv
  obtain ⟨rfl, hZ⟩ := hv
  have hx := B.exec
  have hb := B.bytes
  have hr := B.returns
  have hts := atoms_spec (ws := wsJ1_charAt_3b067) B.pre
  have hown : s.vm.findClass RJ1 = some m.cls := findClass_of_methodNamed B.named
  have hlocks := B.notSynchronized
  have hS : va_S no s.heap s.heap [] := va_S.rf
  have h1 := hZ.1.narrow (B := no) (fun q h => h.elim)
  have hl := lv_entry [Value.ref (aV i), .int (Int32.ofNat k)] (n := 2) (Nat.le_of_ble_eq_true rfl)
  rw [lg_entry_eq]
  generalize (lg_sl [Value.ref (aV i), .int (Int32.ofNat k)] ++ List.replicate (2 - (lg_sl [Value.ref (aV i), .int (Int32.ofNat k)]).length) Slot.unset).toArray = ls at hl ⊢
  have hl : lv_has ls 2 [(0, .ref (aV i)), (1, .int (Int32.ofNat k))] := hl
  refine lv_iload_n hx hb dJ1_charAt_3b067_0 rfl (lv_at hl 1 rfl) ?_
  refine lv_aload_n hx hb dJ1_charAt_3b067_1 rfl (lv_at hl 0 rfl) ?_
  refine va_tlen hx hb (h1.1 i hi).2.2.2 hS rfl dJ1_charAt_3b067_2 ?_
  refine va_callv (va_runS (As := [.int (Int32.ofNat k), .int (Int32.ofNat (lnW i))]) (rest := []) ⟨hx, hb, hml, hown, hts⟩ (c_strCheck (aK := aK) (aV := aV) (fq := fq) (B0 := B0) l (Int32.ofNat k) (Int32.ofNat (lnW i)) e3 e4) (va_cwS 2 hts gJ1_charAt_3b067_J0_checkIndex_df160 rfl rfl rfl (by decide +kernel) ⟨Nat.le_of_ble_eq_true rfl, Nat.le_of_ble_eq_true rfl⟩) ⟨Tp_blind, fun U hU hW => ⟨rfl, hZ.to (fun q h => h.elim) hS hU hW⟩⟩ rfl rfl hl.1 rfl (lv_room (Nat.le_of_ble_eq_true rfl)) dJ1_charAt_3b067_3 ⟨Nat.le_of_ble_eq_true rfl, Nat.le_of_ble_eq_true rfl⟩) hS (fun q _ h => h.elim) (fun q h => h.elim) (fun u t H1 locs ht hvm hw hB hz hk2 hS => ?_)
  refine lv_aload_n hx hb dJ1_charAt_3b067_6 rfl (lv_at hl 0 rfl) ?_
  refine lv_iload_n hx hb dJ1_charAt_3b067_7 rfl (lv_at hl 1 rfl) ?_
  refine va_tb hx hb (h1.1 i hi).2.2.2 hS (fun z => by rcases z with z | z; exact e3 z; rw [e5] at z; exact absurd hk (Nat.not_lt.mpr z)) (v := .int (byW i k)) (by rw [e5]; rfl) dJ1_charAt_3b067_8 ?_
  refine lv_sipush (v := 255) hx hb dJ1_charAt_3b067_9 (by decide) ?_
  refine lv_iand hx hb dJ1_charAt_3b067_12 ?_
  refine lv_i2c (v := byW i k) hx hb dJ1_charAt_3b067_13 e1 ?_
  exact W.zret hx hb hr e2 (fun t ht hW => ⟨⟨_, (), rfl, rfl, trivial⟩, hS.F ht⟩) (fun q h => hS.2.2 q h) dJ1_charAt_3b067_14
set_option maxHeartbeats 1000000 in
theorem c_charAt (l : Launch) (i k : Nat) (hi : i < 6) (hk : k < lnW i) : Met l yJ0_charAt_5068e wsJ0_charAt_5068e (rmx 3 64) (Tp [.ref (aK i), .int (Int32.ofNat k)] aK aV fq B0) (Ti (byW i k)) 0 0 no := by
  obtain ⟨e1, e2, e3, e4, e5⟩ := byW_c i hi k hk
  refine Met.ofW (cc := cJ0_charAt_5068e) (maxL := 2) (ret := some .char) (by decide) rfl ?_
  intro p e s m args below meth c s₁ B hml hv
  obtain ⟨rfl, hZ⟩ := hv
  have hx := B.exec
  have hb := B.bytes
  have hr := B.returns
  have hts := atoms_spec (ws := wsJ0_charAt_5068e) B.pre
  have hown : s.vm.findClass RJ0 = some m.cls := findClass_of_methodNamed B.named
  have hlocks := B.notSynchronized
  have hS : va_S no s.heap s.heap [] := va_S.rf
  have h1 := hZ.1.narrow (B := no) (fun q h => h.elim)
  have hl := lv_entry [Value.ref (aK i), .int (Int32.ofNat k)] (n := 2) (Nat.le_of_ble_eq_true rfl)
  rw [lg_entry_eq]
  generalize (lg_sl [Value.ref (aK i), .int (Int32.ofNat k)] ++ List.replicate (2 - (lg_sl [Value.ref (aK i), .int (Int32.ofNat k)]).length) Slot.unset).toArray = ls at hl ⊢
  have hl : lv_has ls 2 [(0, .ref (aK i)), (1, .int (Int32.ofNat k))] := hl
  refine lv_aload_n hx hb dJ0_charAt_5068e_0 rfl (lv_at hl 0 rfl) ?_
  refine va_calli (va_runV (As := []) (rest := []) ⟨hx, hb, hml, hown, hts⟩ (c_isLatin1 (aV := aV) (fq := fq) (B0 := B0) l i hi) (cwV 0 hts gJ0_charAt_5068e_J0_isLatin1_aae02 rfl rfl rfl (by decide +kernel) ⟨Nat.le_of_ble_eq_true rfl, Nat.le_of_ble_eq_true rfl⟩) ⟨Tp_blind, vk_recv h1 hi hS, fun U hU hW => ⟨rfl, hZ.to (fun q h => h.elim) hS hU hW⟩⟩ rfl rfl hl.1 rfl (lv_room (Nat.le_of_ble_eq_true rfl)) dJ0_charAt_5068e_1 ⟨Nat.le_of_ble_eq_true rfl, Nat.le_of_ble_eq_true rfl⟩) hS (fun q _ h => h.elim) (fun q h => h.elim) (fun r u t H1 locs ht hvm hw hB hz hk2 hS => ?_)
  have hw : r = 1 := hw
  subst hw
  refine lv_if_eq (tgt := 16) hx hb dJ0_charAt_5068e_4 (by decide) (fun h => absurd h (by decide)) (fun _ => ?_)
  refine lv_aload_n hx hb dJ0_charAt_5068e_7 rfl (lv_at hl 0 rfl) ?_
  refine vk_getf hx hb (h1.1 i hi).2.2.1 hS hown (hts (.fieldLink RJ0 9 "java/lang/String" "value" "[B") (by decide +kernel)) (fun _ h => h) dJ0_charAt_5068e_8 ?_
  refine lv_iload_n hx hb dJ0_charAt_5068e_11 rfl (lv_at hl 1 rfl) ?_
  refine va_calli (va_runS (As := [.ref (aV i), .int (Int32.ofNat k)]) (rest := []) ⟨hx, hb, hml, hown, hts⟩ (c_latCharAt (aK := aK) (aV := aV) (fq := fq) (B0 := B0) l i k hi hk) (va_cwS 2 hts gJ0_charAt_5068e_J1_charAt_3b067 rfl rfl rfl (by decide +kernel) ⟨Nat.le_of_ble_eq_true rfl, Nat.le_of_ble_eq_true rfl⟩) ⟨Tp_blind, fun U hU hW => ⟨rfl, hZ.to (fun q h => h.elim) hS hU hW⟩⟩ rfl rfl hl.1 rfl (lv_room (Nat.le_of_ble_eq_true rfl)) dJ0_charAt_5068e_12 ⟨Nat.le_of_ble_eq_true rfl, Nat.le_of_ble_eq_true rfl⟩) hS (fun q _ h => h.elim) (fun q h => h.elim) (fun r u t H2 locs ht hvm hw hB hz hk2 hS => ?_)
  have hw : r = byW i k := hw
  subst hw
  exact W.zret hx hb hr e2 (fun t ht hW => ⟨⟨_, (), rfl, rfl, trivial⟩, hS.F ht⟩) (fun q h => hS.2.2 q h) dJ0_charAt_5068e_15
end TX
