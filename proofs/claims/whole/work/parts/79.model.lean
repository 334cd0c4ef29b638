-- THE REFERENCE's constructor
theorem ofc (k : Nat) (h : k < 100) : (Int32.ofInt (k : Nat)).toNatClampNeg = k := by
  show (Int32.ofInt (k : Nat)).toInt.toNat = k
  have : (Int32.ofInt (k : Nat)).toInt = (k : Int) := i32_id (by omega) (by omega)
  rw [this]
  rfl
theorem sN_m1 : ∀ i, 2 ≤ i → i < 86 → sN i = -1 := fun i a b => by
  unfold sN
  rw [if_neg (by omega), if_neg (by omega), if_pos b]
theorem sN_held {N : Int → Int} (h : ∀ i : Nat, i < 204 → N (i : Nat) = sN i) : heldOk N := by
  have e : ∀ k : Int, 2 ≤ k → k < 86 → N k = -1 := fun k a b => by
    obtain ⟨n, rfl⟩ : ∃ n : Nat, k = n := ⟨k.toNat, by omega⟩
    rw [h n (by omega), sN_m1 n (by omega) (by omega)]
  refine ⟨fun k a b => by rw [e (2 + k) (by omega) (by omega)]; decide, fun r g a b c d z => ?_⟩
  rw [e (2 + 7 * r + g) (by omega) (by omega)] at z
  omega
theorem k32_84x : i32 84 = 84 := by decide +kernel
def PX8 (t : St) : Prop := (∀ i : Nat, i < 204 → t 1 (i : Nat) = sN i) ∧ GM t (stS (t 1)) ∧ t 0 3 = 0 ∧ t 0 12 = 0 ∧ (∀ i, t 4 i = 0) ∧ ∀ i, 0 ≤ i → i < 4 → t 24 i = -1
theorem finX8 {u t : St} (z0 : u 0 = fun _ => 0) (z1 : u 1 = fun _ => 0) (z4 : u 4 = fun _ => 0) (z24 : ∀ i, 0 ≤ i → i < 4 → u 24 i = -1) (h1 : GM t (stS (endM u 1))) (h2 : frm gmK gmJ (endM u) t) : PX8 t := by
  have e1 : t 1 = endM u 1 := h2.1 1 (by decide) (by decide)
  refine ⟨fun i hi => by rw [e1]; exact endM_1 z1 i hi, by rw [e1]; exact h1, ?_, ?_, fun i => ?_, fun i a b => ?_⟩
  · rw [h2.2 3 (by decide), endM_o (by decide), z0]
  · rw [h2.2 12 (by decide), endM_o (by decide), z0]
  · rw [h2.1 4 (by decide) (by decide), endM_o (by decide), z4]
  · rw [h2.1 24 (by decide) (by decide), endM_o (by decide)]
    exact z24 i a b
def ZX8 (aK aV : Nat → Nat) (fq B0 : Nat) (U : State) : Prop := SX aK aV fq B0 RX8 94 U ∧ va_AO "java/lang/String" U
theorem ZX8.bl {aK aV : Nat → Nat} {fq B0 : Nat} : Zb (ZX8 aK aV fq B0) := fun a U g mk h => ⟨SX.bl a U g mk h.1, va_AO.moved (u := U) (U := U.calling g mk a) (Vm.Alike.refl U.vm) h.2⟩
theorem ZX8.to {aK aV : Nat → Nat} {fq B0 : Nat} {s U : State} {A : Nat → Prop} {H : Heap} {locs : List Loc} (h : ZX8 aK aV fq B0 s) (hA : ∀ q, A q → B0 ≤ q) (hS : va_S A s.heap H locs) (hU : U.heap = H) (hW : s.WarmedH U.vm) : ZX8 aK aV fq B0 U := ⟨h.1.to hA hS hU hW, va_AO.moved hW.alike h.2⟩
theorem kX8_init_0 : Cond.methodLink RX8 3 objectInit ∈ wsX8_init := by decide +kernel
theorem kX8_init_1 : Cond.instanceMethod objectInit ∈ wsX8_init := by decide +kernel
theorem kX8_init_2 : Cond.code objectInit ⟨#[0xb1]⟩ 1 none ∈ wsX8_init := by decide +kernel
theorem kX8_init_3 : Cond.arrayClass .int ∈ wsX8_init := by decide +kernel
theorem kX8_init_4 : ∀ w ∈ wsX80, w ∈ wsX8_init := by decide +kernel
theorem kX8_init_5 : Cond.fieldLink RX8 9 "LacePillowModel" "now" "[I" ∈ wsX8_init := by decide +kernel
theorem kX8_init_6 : Cond.fieldLink RX8 13 "LacePillowModel" "kept" "[I" ∈ wsX8_init := by decide +kernel
theorem kX8_init_7 : Cond.fieldLink RX8 16 "LacePillowModel" "aside" "[I" ∈ wsX8_init := by decide +kernel
theorem kX8_init_8 : Cond.fieldLink RX8 19 "LacePillowModel" "met" "[I" ∈ wsX8_init := by decide +kernel
theorem kX8_init_9 : Cond.fieldLink RX8 22 "LacePillowModel" "row" "[I" ∈ wsX8_init := by decide +kernel
theorem kX8_init_10 : Cond.fieldLink RX8 25 "LacePillowModel" "gap" "[I" ∈ wsX8_init := by decide +kernel
theorem kX8_init_11 : Cond.fieldLink RX8 28 "LacePillowModel" "kind" "[I" ∈ wsX8_init := by decide +kernel
theorem kX8_init_12 : Cond.fieldLink RX8 31 "LacePillowModel" "level" "[I" ∈ wsX8_init := by decide +kernel
theorem kX8_init_13 : Cond.arrayClass .long ∈ wsX8_init := by decide +kernel
theorem kX8_init_14 : Cond.fieldLink RX8 34 "LacePillowModel" "ahead" "[J" ∈ wsX8_init := by decide +kernel
theorem kX8_init_15 : Cond.fieldLink RX8 38 "LacePillowModel" "tape" "[I" ∈ wsX8_init := by decide +kernel
theorem kX8_init_16 : Cond.fieldLink RX8 41 "LacePillowModel" "at" "[I" ∈ wsX8_init := by decide +kernel
theorem kX8_init_17 : Cond.fieldLink RX8 44 "LacePillowModel" "used" "[I" ∈ wsX8_init := by decide +kernel
theorem kX8_init_18 : Cond.fieldLink RX8 47 "LacePillowModel" "place" "[I" ∈ wsX8_init := by decide +kernel
theorem kX8_init_19 : Cond.fieldLink RX8 50 "LacePillowModel" "sign" "[I" ∈ wsX8_init := by decide +kernel
theorem kX8_init_20 : Cond.fieldLink RX8 53 "LacePillowModel" "over" "[I" ∈ wsX8_init := by decide +kernel
theorem kX8_init_21 : Cond.fieldLink RX8 56 "LacePillowModel" "under" "[I" ∈ wsX8_init := by decide +kernel
theorem kX8_init_22 : Cond.fieldLink RX8 59 "LacePillowModel" "by" "[I" ∈ wsX8_init := by decide +kernel
theorem kX8_init_23 : Cond.fieldLink RX8 62 "LacePillowModel" "leftPlace" "[I" ∈ wsX8_init := by decide +kernel
theorem kX8_init_24 : Cond.fieldLink RX8 65 "LacePillowModel" "leftSign" "[I" ∈ wsX8_init := by decide +kernel
theorem kX8_init_25 : Cond.fieldLink RX8 68 "LacePillowModel" "layerOf" "[I" ∈ wsX8_init := by decide +kernel
theorem kX8_init_26 : Cond.fieldLink RX8 71 "LacePillowModel" "takenBy" "[I" ∈ wsX8_init := by decide +kernel
theorem kX8_init_27 : Cond.fieldLink RX8 74 "LacePillowModel" "setMet" "[I" ∈ wsX8_init := by decide +kernel
theorem kX8_init_28 : Cond.fieldLink RX8 77 "LacePillowModel" "waysMet" "[J" ∈ wsX8_init := by decide +kernel
theorem kX8_init_29 : Cond.fieldLink RX8 80 "LacePillowModel" "sort" "[I" ∈ wsX8_init := by decide +kernel
theorem kX8_init_30 : Cond.fieldLink RX8 83 "LacePillowModel" "size" "[I" ∈ wsX8_init := by decide +kernel
theorem kX8_init_31 : Cond.fieldLink RX8 86 "LacePillowModel" "items" "[J" ∈ wsX8_init := by decide +kernel
theorem kX8_init_32 : Cond.fieldLink RX8 89 "LacePillowModel" "shown" "[I" ∈ wsX8_init := by decide +kernel
theorem kX8_init_33 : Cond.classLink RX8 92 RJ0 ∈ wsX8_init := by decide +kernel
def QM1 : List LC := [.inr (.inr (8, [.inl 0, .inl 0, .inl 0, .inr false, .inl 0, .inr false, .inl 0, .inl 0, .inl 0, .inl 0, .inl 0, .inl 0, .inr false, .inl 0, .inl 0, .inr false, .inl 0, .inl 0, .inl 0, .inl 0, .inl 0, .inr false, .inl 0, .inl 0, .inl 0, .inl 0, .inr true, .inl 0, .inl 0, .inl 0, .inl 0, .inl 0, .inl 0]))]
theorem QM1_low : allLow QM1 = true := by decide +kernel
theorem QM1_len : QM1.length = 1 := by decide +kernel
theorem QM1_0 : QM1[0]? = some (.inr (.inr (8, [.inl 0, .inl 0, .inl 0, .inr false, .inl 0, .inr false, .inl 0, .inl 0, .inl 0, .inl 0, .inl 0, .inl 0, .inr false, .inl 0, .inl 0, .inr false, .inl 0, .inl 0, .inl 0, .inl 0, .inl 0, .inr false, .inl 0, .inl 0, .inl 0, .inl 0, .inr true, .inl 0, .inl 0, .inl 0, .inl 0, .inl 0, .inl 0]))) := by decide +kernel
def QM2 : List LC := [.inr (.inr (8, [.inl 0, .inl 0, .inl 0, .inr false, .inl 0, .inr false, .inl 0, .inl 0, .inl 0, .inl 0, .inl 0, .inl 0, .inr false, .inl 0, .inl 0, .inr false, .inl 0, .inl 0, .inl 0, .inl 0, .inl 0, .inr false, .inl 0, .inl 0, .inl 0, .inl 0, .inr true, .inl 0, .inl 0, .inl 0, .inl 0, .inl 0, .inl 0])), .inl (false, 204)]
theorem QM2_low : allLow QM2 = true := by decide +kernel
theorem QM2_len : QM2.length = 2 := by decide +kernel
theorem QM2_0 : QM2[0]? = some (.inr (.inr (8, [.inl 0, .inl 0, .inl 0, .inr false, .inl 0, .inr false, .inl 0, .inl 0, .inl 0, .inl 0, .inl 0, .inl 0, .inr false, .inl 0, .inl 0, .inr false, .inl 0, .inl 0, .inl 0, .inl 0, .inl 0, .inr false, .inl 0, .inl 0, .inl 0, .inl 0, .inr true, .inl 0, .inl 0, .inl 0, .inl 0, .inl 0, .inl 0]))) := by decide +kernel
def QM3 : List LC := [.inr (.inr (8, [.inl 1, .inl 0, .inl 0, .inr false, .inl 0, .inr false, .inl 0, .inl 0, .inl 0, .inl 0, .inl 0, .inl 0, .inr false, .inl 0, .inl 0, .inr false, .inl 0, .inl 0, .inl 0, .inl 0, .inl 0, .inr false, .inl 0, .inl 0, .inl 0, .inl 0, .inr true, .inl 0, .inl 0, .inl 0, .inl 0, .inl 0, .inl 0])), .inl (false, 204)]
theorem QM3_low : allLow QM3 = true := by decide +kernel
theorem QM3_len : QM3.length = 2 := by decide +kernel
theorem QM3_0 : QM3[0]? = some (.inr (.inr (8, [.inl 1, .inl 0, .inl 0, .inr false, .inl 0, .inr false, .inl 0, .inl 0, .inl 0, .inl 0, .inl 0, .inl 0, .inr false, .inl 0, .inl 0, .inr false, .inl 0, .inl 0, .inl 0, .inl 0, .inl 0, .inr false, .inl 0, .inl 0, .inl 0, .inl 0, .inr true, .inl 0, .inl 0, .inl 0, .inl 0, .inl 0, .inl 0]))) := by decide +kernel
def QM4 : List LC := [.inr (.inr (8, [.inl 1, .inl 0, .inl 0, .inr false, .inl 0, .inr false, .inl 0, .inl 0, .inl 0, .inl 0, .inl 0, .inl 0, .inr false, .inl 0, .inl 0, .inr false, .inl 0, .inl 0, .inl 0, .inl 0, .inl 0, .inr false, .inl 0, .inl 0, .inl 0, .inl 0, .inr true, .inl 0, .inl 0, .inl 0, .inl 0, .inl 0, .inl 0])), .inl (false, 204), .inl (false, 204)]
theorem QM4_low : allLow QM4 = true := by decide +kernel
theorem QM4_len : QM4.length = 3 := by decide +kernel
theorem QM4_0 : QM4[0]? = some (.inr (.inr (8, [.inl 1, .inl 0, .inl 0, .inr false, .inl 0, .inr false, .inl 0, .inl 0, .inl 0, .inl 0, .inl 0, .inl 0, .inr false, .inl 0, .inl 0, .inr false, .inl 0, .inl 0, .inl 0, .inl 0, .inl 0, .inr false, .inl 0, .inl 0, .inl 0, .inl 0, .inr true, .inl 0, .inl 0, .inl 0, .inl 0, .inl 0, .inl 0]))) := by decide +kernel
def QM5 : List LC := [.inr (.inr (8, [.inl 1, .inl 2, .inl 0, .inr false, .inl 0, .inr false, .inl 0, .inl 0, .inl 0, .inl 0, .inl 0, .inl 0, .inr false, .inl 0, .inl 0, .inr false, .inl 0, .inl 0, .inl 0, .inl 0, .inl 0, .inr false, .inl 0, .inl 0, .inl 0, .inl 0, .inr true, .inl 0, .inl 0, .inl 0, .inl 0, .inl 0, .inl 0])), .inl (false, 204), .inl (false, 204)]
theorem QM5_low : allLow QM5 = true := by decide +kernel
theorem QM5_len : QM5.length = 3 := by decide +kernel
theorem QM5_0 : QM5[0]? = some (.inr (.inr (8, [.inl 1, .inl 2, .inl 0, .inr false, .inl 0, .inr false, .inl 0, .inl 0, .inl 0, .inl 0, .inl 0, .inl 0, .inr false, .inl 0, .inl 0, .inr false, .inl 0, .inl 0, .inl 0, .inl 0, .inl 0, .inr false, .inl 0, .inl 0, .inl 0, .inl 0, .inr true, .inl 0, .inl 0, .inl 0, .inl 0, .inl 0, .inl 0]))) := by decide +kernel
def QM6 : List LC := [.inr (.inr (8, [.inl 1, .inl 2, .inl 0, .inr false, .inl 0, .inr false, .inl 0, .inl 0, .inl 0, .inl 0, .inl 0, .inl 0, .inr false, .inl 0, .inl 0, .inr false, .inl 0, .inl 0, .inl 0, .inl 0, .inl 0, .inr false, .inl 0, .inl 0, .inl 0, .inl 0, .inr true, .inl 0, .inl 0, .inl 0, .inl 0, .inl 0, .inl 0])), .inl (false, 204), .inl (false, 204), .inl (false, 204)]
theorem QM6_low : allLow QM6 = true := by decide +kernel
theorem QM6_len : QM6.length = 4 := by decide +kernel
theorem QM6_0 : QM6[0]? = some (.inr (.inr (8, [.inl 1, .inl 2, .inl 0, .inr false, .inl 0, .inr false, .inl 0, .inl 0, .inl 0, .inl 0, .inl 0, .inl 0, .inr false, .inl 0, .inl 0, .inr false, .inl 0, .inl 0, .inl 0, .inl 0, .inl 0, .inr false, .inl 0, .inl 0, .inl 0, .inl 0, .inr true, .inl 0, .inl 0, .inl 0, .inl 0, .inl 0, .inl 0]))) := by decide +kernel
def QM7 : List LC := [.inr (.inr (8, [.inl 1, .inl 2, .inl 3, .inr false, .inl 0, .inr false, .inl 0, .inl 0, .inl 0, .inl 0, .inl 0, .inl 0, .inr false, .inl 0, .inl 0, .inr false, .inl 0, .inl 0, .inl 0, .inl 0, .inl 0, .inr false, .inl 0, .inl 0, .inl 0, .inl 0, .inr true, .inl 0, .inl 0, .inl 0, .inl 0, .inl 0, .inl 0])), .inl (false, 204), .inl (false, 204), .inl (false, 204)]
theorem QM7_low : allLow QM7 = true := by decide +kernel
theorem QM7_len : QM7.length = 4 := by decide +kernel
theorem QM7_0 : QM7[0]? = some (.inr (.inr (8, [.inl 1, .inl 2, .inl 3, .inr false, .inl 0, .inr false, .inl 0, .inl 0, .inl 0, .inl 0, .inl 0, .inl 0, .inr false, .inl 0, .inl 0, .inr false, .inl 0, .inl 0, .inl 0, .inl 0, .inl 0, .inr false, .inl 0, .inl 0, .inl 0, .inl 0, .inr true, .inl 0, .inl 0, .inl 0, .inl 0, .inl 0, .inl 0]))) := by decide +kernel
def QM8 : List LC := [.inr (.inr (8, [.inl 1, .inl 2, .inl 3, .inr false, .inl 0, .inr false, .inl 0, .inl 0, .inl 0, .inl 0, .inl 0, .inl 0, .inr false, .inl 0, .inl 0, .inr false, .inl 0, .inl 0, .inl 0, .inl 0, .inl 0, .inr false, .inl 0, .inl 0, .inl 0, .inl 0, .inr true, .inl 0, .inl 0, .inl 0, .inl 0, .inl 0, .inl 0])), .inl (false, 204), .inl (false, 204), .inl (false, 204), .inl (false, 8)]
theorem QM8_low : allLow QM8 = true := by decide +kernel
theorem QM8_len : QM8.length = 5 := by decide +kernel
theorem QM8_0 : QM8[0]? = some (.inr (.inr (8, [.inl 1, .inl 2, .inl 3, .inr false, .inl 0, .inr false, .inl 0, .inl 0, .inl 0, .inl 0, .inl 0, .inl 0, .inr false, .inl 0, .inl 0, .inr false, .inl 0, .inl 0, .inl 0, .inl 0, .inl 0, .inr false, .inl 0, .inl 0, .inl 0, .inl 0, .inr true, .inl 0, .inl 0, .inl 0, .inl 0, .inl 0, .inl 0]))) := by decide +kernel
def QM9 : List LC := [.inr (.inr (8, [.inl 1, .inl 2, .inl 3, .inr false, .inl 4, .inr false, .inl 0, .inl 0, .inl 0, .inl 0, .inl 0, .inl 0, .inr false, .inl 0, .inl 0, .inr false, .inl 0, .inl 0, .inl 0, .inl 0, .inl 0, .inr false, .inl 0, .inl 0, .inl 0, .inl 0, .inr true, .inl 0, .inl 0, .inl 0, .inl 0, .inl 0, .inl 0])), .inl (false, 204), .inl (false, 204), .inl (false, 204), .inl (false, 8)]
theorem QM9_low : allLow QM9 = true := by decide +kernel
theorem QM9_len : QM9.length = 5 := by decide +kernel
theorem QM9_0 : QM9[0]? = some (.inr (.inr (8, [.inl 1, .inl 2, .inl 3, .inr false, .inl 4, .inr false, .inl 0, .inl 0, .inl 0, .inl 0, .inl 0, .inl 0, .inr false, .inl 0, .inl 0, .inr false, .inl 0, .inl 0, .inl 0, .inl 0, .inl 0, .inr false, .inl 0, .inl 0, .inl 0, .inl 0, .inr true, .inl 0, .inl 0, .inl 0, .inl 0, .inl 0, .inl 0]))) := by decide +kernel
def QM10 : List LC := [.inr (.inr (8, [.inl 1, .inl 2, .inl 3, .inr false, .inl 4, .inr false, .inl 0, .inl 0, .inl 0, .inl 0, .inl 0, .inl 0, .inr false, .inl 0, .inl 0, .inr false, .inl 0, .inl 0, .inl 0, .inl 0, .inl 0, .inr false, .inl 0, .inl 0, .inl 0, .inl 0, .inr true, .inl 0, .inl 0, .inl 0, .inl 0, .inl 0, .inl 0])), .inl (false, 204), .inl (false, 204), .inl (false, 204), .inl (false, 8), .inl (false, 48)]
theorem QM10_low : allLow QM10 = true := by decide +kernel
theorem QM10_len : QM10.length = 6 := by decide +kernel
theorem QM10_0 : QM10[0]? = some (.inr (.inr (8, [.inl 1, .inl 2, .inl 3, .inr false, .inl 4, .inr false, .inl 0, .inl 0, .inl 0, .inl 0, .inl 0, .inl 0, .inr false, .inl 0, .inl 0, .inr false, .inl 0, .inl 0, .inl 0, .inl 0, .inl 0, .inr false, .inl 0, .inl 0, .inl 0, .inl 0, .inr true, .inl 0, .inl 0, .inl 0, .inl 0, .inl 0, .inl 0]))) := by decide +kernel
def QM11 : List LC := [.inr (.inr (8, [.inl 1, .inl 2, .inl 3, .inr false, .inl 4, .inr false, .inl 5, .inl 0, .inl 0, .inl 0, .inl 0, .inl 0, .inr false, .inl 0, .inl 0, .inr false, .inl 0, .inl 0, .inl 0, .inl 0, .inl 0, .inr false, .inl 0, .inl 0, .inl 0, .inl 0, .inr true, .inl 0, .inl 0, .inl 0, .inl 0, .inl 0, .inl 0])), .inl (false, 204), .inl (false, 204), .inl (false, 204), .inl (false, 8), .inl (false, 48)]
theorem QM11_low : allLow QM11 = true := by decide +kernel
theorem QM11_len : QM11.length = 6 := by decide +kernel
theorem QM11_0 : QM11[0]? = some (.inr (.inr (8, [.inl 1, .inl 2, .inl 3, .inr false, .inl 4, .inr false, .inl 5, .inl 0, .inl 0, .inl 0, .inl 0, .inl 0, .inr false, .inl 0, .inl 0, .inr false, .inl 0, .inl 0, .inl 0, .inl 0, .inl 0, .inr false, .inl 0, .inl 0, .inl 0, .inl 0, .inr true, .inl 0, .inl 0, .inl 0, .inl 0, .inl 0, .inl 0]))) := by decide +kernel
def QM12 : List LC := [.inr (.inr (8, [.inl 1, .inl 2, .inl 3, .inr false, .inl 4, .inr false, .inl 5, .inl 0, .inl 0, .inl 0, .inl 0, .inl 0, .inr false, .inl 0, .inl 0, .inr false, .inl 0, .inl 0, .inl 0, .inl 0, .inl 0, .inr false, .inl 0, .inl 0, .inl 0, .inl 0, .inr true, .inl 0, .inl 0, .inl 0, .inl 0, .inl 0, .inl 0])), .inl (false, 204), .inl (false, 204), .inl (false, 204), .inl (false, 8), .inl (false, 48), .inl (false, 48)]
theorem QM12_low : allLow QM12 = true := by decide +kernel
theorem QM12_len : QM12.length = 7 := by decide +kernel
theorem QM12_0 : QM12[0]? = some (.inr (.inr (8, [.inl 1, .inl 2, .inl 3, .inr false, .inl 4, .inr false, .inl 5, .inl 0, .inl 0, .inl 0, .inl 0, .inl 0, .inr false, .inl 0, .inl 0, .inr false, .inl 0, .inl 0, .inl 0, .inl 0, .inl 0, .inr false, .inl 0, .inl 0, .inl 0, .inl 0, .inr true, .inl 0, .inl 0, .inl 0, .inl 0, .inl 0, .inl 0]))) := by decide +kernel
def QM13 : List LC := [.inr (.inr (8, [.inl 1, .inl 2, .inl 3, .inr false, .inl 4, .inr false, .inl 5, .inl 6, .inl 0, .inl 0, .inl 0, .inl 0, .inr false, .inl 0, .inl 0, .inr false, .inl 0, .inl 0, .inl 0, .inl 0, .inl 0, .inr false, .inl 0, .inl 0, .inl 0, .inl 0, .inr true, .inl 0, .inl 0, .inl 0, .inl 0, .inl 0, .inl 0])), .inl (false, 204), .inl (false, 204), .inl (false, 204), .inl (false, 8), .inl (false, 48), .inl (false, 48)]
theorem QM13_low : allLow QM13 = true := by decide +kernel
theorem QM13_len : QM13.length = 7 := by decide +kernel
theorem QM13_0 : QM13[0]? = some (.inr (.inr (8, [.inl 1, .inl 2, .inl 3, .inr false, .inl 4, .inr false, .inl 5, .inl 6, .inl 0, .inl 0, .inl 0, .inl 0, .inr false, .inl 0, .inl 0, .inr false, .inl 0, .inl 0, .inl 0, .inl 0, .inl 0, .inr false, .inl 0, .inl 0, .inl 0, .inl 0, .inr true, .inl 0, .inl 0, .inl 0, .inl 0, .inl 0, .inl 0]))) := by decide +kernel
def QM14 : List LC := [.inr (.inr (8, [.inl 1, .inl 2, .inl 3, .inr false, .inl 4, .inr false, .inl 5, .inl 6, .inl 0, .inl 0, .inl 0, .inl 0, .inr false, .inl 0, .inl 0, .inr false, .inl 0, .inl 0, .inl 0, .inl 0, .inl 0, .inr false, .inl 0, .inl 0, .inl 0, .inl 0, .inr true, .inl 0, .inl 0, .inl 0, .inl 0, .inl 0, .inl 0])), .inl (false, 204), .inl (false, 204), .inl (false, 204), .inl (false, 8), .inl (false, 48), .inl (false, 48), .inl (false, 48)]
theorem QM14_low : allLow QM14 = true := by decide +kernel
theorem QM14_len : QM14.length = 8 := by decide +kernel
theorem QM14_0 : QM14[0]? = some (.inr (.inr (8, [.inl 1, .inl 2, .inl 3, .inr false, .inl 4, .inr false, .inl 5, .inl 6, .inl 0, .inl 0, .inl 0, .inl 0, .inr false, .inl 0, .inl 0, .inr false, .inl 0, .inl 0, .inl 0, .inl 0, .inl 0, .inr false, .inl 0, .inl 0, .inl 0, .inl 0, .inr true, .inl 0, .inl 0, .inl 0, .inl 0, .inl 0, .inl 0]))) := by decide +kernel
def QM15 : List LC := [.inr (.inr (8, [.inl 1, .inl 2, .inl 3, .inr false, .inl 4, .inr false, .inl 5, .inl 6, .inl 7, .inl 0, .inl 0, .inl 0, .inr false, .inl 0, .inl 0, .inr false, .inl 0, .inl 0, .inl 0, .inl 0, .inl 0, .inr false, .inl 0, .inl 0, .inl 0, .inl 0, .inr true, .inl 0, .inl 0, .inl 0, .inl 0, .inl 0, .inl 0])), .inl (false, 204), .inl (false, 204), .inl (false, 204), .inl (false, 8), .inl (false, 48), .inl (false, 48), .inl (false, 48)]
theorem QM15_low : allLow QM15 = true := by decide +kernel
theorem QM15_len : QM15.length = 8 := by decide +kernel
theorem QM15_0 : QM15[0]? = some (.inr (.inr (8, [.inl 1, .inl 2, .inl 3, .inr false, .inl 4, .inr false, .inl 5, .inl 6, .inl 7, .inl 0, .inl 0, .inl 0, .inr false, .inl 0, .inl 0, .inr false, .inl 0, .inl 0, .inl 0, .inl 0, .inl 0, .inr false, .inl 0, .inl 0, .inl 0, .inl 0, .inr true, .inl 0, .inl 0, .inl 0, .inl 0, .inl 0, .inl 0]))) := by decide +kernel
def QM16 : List LC := [.inr (.inr (8, [.inl 1, .inl 2, .inl 3, .inr false, .inl 4, .inr false, .inl 5, .inl 6, .inl 7, .inl 0, .inl 0, .inl 0, .inr false, .inl 0, .inl 0, .inr false, .inl 0, .inl 0, .inl 0, .inl 0, .inl 0, .inr false, .inl 0, .inl 0, .inl 0, .inl 0, .inr true, .inl 0, .inl 0, .inl 0, .inl 0, .inl 0, .inl 0])), .inl (false, 204), .inl (false, 204), .inl (false, 204), .inl (false, 8), .inl (false, 48), .inl (false, 48), .inl (false, 48), .inl (false, 48)]
theorem QM16_low : allLow QM16 = true := by decide +kernel
theorem QM16_len : QM16.length = 9 := by decide +kernel
theorem QM16_0 : QM16[0]? = some (.inr (.inr (8, [.inl 1, .inl 2, .inl 3, .inr false, .inl 4, .inr false, .inl 5, .inl 6, .inl 7, .inl 0, .inl 0, .inl 0, .inr false, .inl 0, .inl 0, .inr false, .inl 0, .inl 0, .inl 0, .inl 0, .inl 0, .inr false, .inl 0, .inl 0, .inl 0, .inl 0, .inr true, .inl 0, .inl 0, .inl 0, .inl 0, .inl 0, .inl 0]))) := by decide +kernel
def QM17 : List LC := [.inr (.inr (8, [.inl 1, .inl 2, .inl 3, .inr false, .inl 4, .inr false, .inl 5, .inl 6, .inl 7, .inl 8, .inl 0, .inl 0, .inr false, .inl 0, .inl 0, .inr false, .inl 0, .inl 0, .inl 0, .inl 0, .inl 0, .inr false, .inl 0, .inl 0, .inl 0, .inl 0, .inr true, .inl 0, .inl 0, .inl 0, .inl 0, .inl 0, .inl 0])), .inl (false, 204), .inl (false, 204), .inl (false, 204), .inl (false, 8), .inl (false, 48), .inl (false, 48), .inl (false, 48), .inl (false, 48)]
theorem QM17_low : allLow QM17 = true := by decide +kernel
theorem QM17_len : QM17.length = 9 := by decide +kernel
theorem QM17_0 : QM17[0]? = some (.inr (.inr (8, [.inl 1, .inl 2, .inl 3, .inr false, .inl 4, .inr false, .inl 5, .inl 6, .inl 7, .inl 8, .inl 0, .inl 0, .inr false, .inl 0, .inl 0, .inr false, .inl 0, .inl 0, .inl 0, .inl 0, .inl 0, .inr false, .inl 0, .inl 0, .inl 0, .inl 0, .inr true, .inl 0, .inl 0, .inl 0, .inl 0, .inl 0, .inl 0]))) := by decide +kernel
def QM18 : List LC := [.inr (.inr (8, [.inl 1, .inl 2, .inl 3, .inr false, .inl 4, .inr false, .inl 5, .inl 6, .inl 7, .inl 8, .inl 0, .inl 0, .inr false, .inl 0, .inl 0, .inr false, .inl 0, .inl 0, .inl 0, .inl 0, .inl 0, .inr false, .inl 0, .inl 0, .inl 0, .inl 0, .inr true, .inl 0, .inl 0, .inl 0, .inl 0, .inl 0, .inl 0])), .inl (false, 204), .inl (false, 204), .inl (false, 204), .inl (false, 8), .inl (false, 48), .inl (false, 48), .inl (false, 48), .inl (false, 48), .inl (true, 48)]
theorem QM18_low : allLow QM18 = true := by decide +kernel
theorem QM18_len : QM18.length = 10 := by decide +kernel
theorem QM18_0 : QM18[0]? = some (.inr (.inr (8, [.inl 1, .inl 2, .inl 3, .inr false, .inl 4, .inr false, .inl 5, .inl 6, .inl 7, .inl 8, .inl 0, .inl 0, .inr false, .inl 0, .inl 0, .inr false, .inl 0, .inl 0, .inl 0, .inl 0, .inl 0, .inr false, .inl 0, .inl 0, .inl 0, .inl 0, .inr true, .inl 0, .inl 0, .inl 0, .inl 0, .inl 0, .inl 0]))) := by decide +kernel
def QM19 : List LC := [.inr (.inr (8, [.inl 1, .inl 2, .inl 3, .inr false, .inl 4, .inr false, .inl 5, .inl 6, .inl 7, .inl 8, .inl 9, .inl 0, .inr false, .inl 0, .inl 0, .inr false, .inl 0, .inl 0, .inl 0, .inl 0, .inl 0, .inr false, .inl 0, .inl 0, .inl 0, .inl 0, .inr true, .inl 0, .inl 0, .inl 0, .inl 0, .inl 0, .inl 0])), .inl (false, 204), .inl (false, 204), .inl (false, 204), .inl (false, 8), .inl (false, 48), .inl (false, 48), .inl (false, 48), .inl (false, 48), .inl (true, 48)]
theorem QM19_low : allLow QM19 = true := by decide +kernel
theorem QM19_len : QM19.length = 10 := by decide +kernel
theorem QM19_0 : QM19[0]? = some (.inr (.inr (8, [.inl 1, .inl 2, .inl 3, .inr false, .inl 4, .inr false, .inl 5, .inl 6, .inl 7, .inl 8, .inl 9, .inl 0, .inr false, .inl 0, .inl 0, .inr false, .inl 0, .inl 0, .inl 0, .inl 0, .inl 0, .inr false, .inl 0, .inl 0, .inl 0, .inl 0, .inr true, .inl 0, .inl 0, .inl 0, .inl 0, .inl 0, .inl 0]))) := by decide +kernel
def QM20 : List LC := [.inr (.inr (8, [.inl 1, .inl 2, .inl 3, .inr false, .inl 4, .inr false, .inl 5, .inl 6, .inl 7, .inl 8, .inl 9, .inl 0, .inr false, .inl 0, .inl 0, .inr false, .inl 0, .inl 0, .inl 0, .inl 0, .inl 0, .inr false, .inl 0, .inl 0, .inl 0, .inl 0, .inr true, .inl 0, .inl 0, .inl 0, .inl 0, .inl 0, .inl 0])), .inl (false, 204), .inl (false, 204), .inl (false, 204), .inl (false, 8), .inl (false, 48), .inl (false, 48), .inl (false, 48), .inl (false, 48), .inl (true, 48), .inl (false, 120)]
theorem QM20_low : allLow QM20 = true := by decide +kernel
theorem QM20_len : QM20.length = 11 := by decide +kernel
theorem QM20_0 : QM20[0]? = some (.inr (.inr (8, [.inl 1, .inl 2, .inl 3, .inr false, .inl 4, .inr false, .inl 5, .inl 6, .inl 7, .inl 8, .inl 9, .inl 0, .inr false, .inl 0, .inl 0, .inr false, .inl 0, .inl 0, .inl 0, .inl 0, .inl 0, .inr false, .inl 0, .inl 0, .inl 0, .inl 0, .inr true, .inl 0, .inl 0, .inl 0, .inl 0, .inl 0, .inl 0]))) := by decide +kernel
def QM21 : List LC := [.inr (.inr (8, [.inl 1, .inl 2, .inl 3, .inr false, .inl 4, .inr false, .inl 5, .inl 6, .inl 7, .inl 8, .inl 9, .inl 10, .inr false, .inl 0, .inl 0, .inr false, .inl 0, .inl 0, .inl 0, .inl 0, .inl 0, .inr false, .inl 0, .inl 0, .inl 0, .inl 0, .inr true, .inl 0, .inl 0, .inl 0, .inl 0, .inl 0, .inl 0])), .inl (false, 204), .inl (false, 204), .inl (false, 204), .inl (false, 8), .inl (false, 48), .inl (false, 48), .inl (false, 48), .inl (false, 48), .inl (true, 48), .inl (false, 120)]
theorem QM21_low : allLow QM21 = true := by decide +kernel
theorem QM21_len : QM21.length = 11 := by decide +kernel
theorem QM21_0 : QM21[0]? = some (.inr (.inr (8, [.inl 1, .inl 2, .inl 3, .inr false, .inl 4, .inr false, .inl 5, .inl 6, .inl 7, .inl 8, .inl 9, .inl 10, .inr false, .inl 0, .inl 0, .inr false, .inl 0, .inl 0, .inl 0, .inl 0, .inl 0, .inr false, .inl 0, .inl 0, .inl 0, .inl 0, .inr true, .inl 0, .inl 0, .inl 0, .inl 0, .inl 0, .inl 0]))) := by decide +kernel
def QM22 : List LC := [.inr (.inr (8, [.inl 1, .inl 2, .inl 3, .inr false, .inl 4, .inr false, .inl 5, .inl 6, .inl 7, .inl 8, .inl 9, .inl 10, .inr false, .inl 0, .inl 0, .inr false, .inl 0, .inl 0, .inl 0, .inl 0, .inl 0, .inr false, .inl 0, .inl 0, .inl 0, .inl 0, .inr true, .inl 0, .inl 0, .inl 0, .inl 0, .inl 0, .inl 0])), .inl (false, 204), .inl (false, 204), .inl (false, 204), .inl (false, 8), .inl (false, 48), .inl (false, 48), .inl (false, 48), .inl (false, 48), .inl (true, 48), .inl (false, 120), .inl (false, 16)]
theorem QM22_low : allLow QM22 = true := by decide +kernel
theorem QM22_len : QM22.length = 12 := by decide +kernel
theorem QM22_0 : QM22[0]? = some (.inr (.inr (8, [.inl 1, .inl 2, .inl 3, .inr false, .inl 4, .inr false, .inl 5, .inl 6, .inl 7, .inl 8, .inl 9, .inl 10, .inr false, .inl 0, .inl 0, .inr false, .inl 0, .inl 0, .inl 0, .inl 0, .inl 0, .inr false, .inl 0, .inl 0, .inl 0, .inl 0, .inr true, .inl 0, .inl 0, .inl 0, .inl 0, .inl 0, .inl 0]))) := by decide +kernel
def QM23 : List LC := [.inr (.inr (8, [.inl 1, .inl 2, .inl 3, .inr false, .inl 4, .inr false, .inl 5, .inl 6, .inl 7, .inl 8, .inl 9, .inl 10, .inr false, .inl 11, .inl 0, .inr false, .inl 0, .inl 0, .inl 0, .inl 0, .inl 0, .inr false, .inl 0, .inl 0, .inl 0, .inl 0, .inr true, .inl 0, .inl 0, .inl 0, .inl 0, .inl 0, .inl 0])), .inl (false, 204), .inl (false, 204), .inl (false, 204), .inl (false, 8), .inl (false, 48), .inl (false, 48), .inl (false, 48), .inl (false, 48), .inl (true, 48), .inl (false, 120), .inl (false, 16)]
theorem QM23_low : allLow QM23 = true := by decide +kernel
theorem QM23_len : QM23.length = 12 := by decide +kernel
theorem QM23_0 : QM23[0]? = some (.inr (.inr (8, [.inl 1, .inl 2, .inl 3, .inr false, .inl 4, .inr false, .inl 5, .inl 6, .inl 7, .inl 8, .inl 9, .inl 10, .inr false, .inl 11, .inl 0, .inr false, .inl 0, .inl 0, .inl 0, .inl 0, .inl 0, .inr false, .inl 0, .inl 0, .inl 0, .inl 0, .inr true, .inl 0, .inl 0, .inl 0, .inl 0, .inl 0, .inl 0]))) := by decide +kernel
def QM24 : List LC := [.inr (.inr (8, [.inl 1, .inl 2, .inl 3, .inr false, .inl 4, .inr false, .inl 5, .inl 6, .inl 7, .inl 8, .inl 9, .inl 10, .inr false, .inl 11, .inl 0, .inr false, .inl 0, .inl 0, .inl 0, .inl 0, .inl 0, .inr false, .inl 0, .inl 0, .inl 0, .inl 0, .inr true, .inl 0, .inl 0, .inl 0, .inl 0, .inl 0, .inl 0])), .inl (false, 204), .inl (false, 204), .inl (false, 204), .inl (false, 8), .inl (false, 48), .inl (false, 48), .inl (false, 48), .inl (false, 48), .inl (true, 48), .inl (false, 120), .inl (false, 16), .inl (false, 16)]
theorem QM24_low : allLow QM24 = true := by decide +kernel
theorem QM24_len : QM24.length = 13 := by decide +kernel
theorem QM24_0 : QM24[0]? = some (.inr (.inr (8, [.inl 1, .inl 2, .inl 3, .inr false, .inl 4, .inr false, .inl 5, .inl 6, .inl 7, .inl 8, .inl 9, .inl 10, .inr false, .inl 11, .inl 0, .inr false, .inl 0, .inl 0, .inl 0, .inl 0, .inl 0, .inr false, .inl 0, .inl 0, .inl 0, .inl 0, .inr true, .inl 0, .inl 0, .inl 0, .inl 0, .inl 0, .inl 0]))) := by decide +kernel
def QM25 : List LC := [.inr (.inr (8, [.inl 1, .inl 2, .inl 3, .inr false, .inl 4, .inr false, .inl 5, .inl 6, .inl 7, .inl 8, .inl 9, .inl 10, .inr false, .inl 11, .inl 12, .inr false, .inl 0, .inl 0, .inl 0, .inl 0, .inl 0, .inr false, .inl 0, .inl 0, .inl 0, .inl 0, .inr true, .inl 0, .inl 0, .inl 0, .inl 0, .inl 0, .inl 0])), .inl (false, 204), .inl (false, 204), .inl (false, 204), .inl (false, 8), .inl (false, 48), .inl (false, 48), .inl (false, 48), .inl (false, 48), .inl (true, 48), .inl (false, 120), .inl (false, 16), .inl (false, 16)]
theorem QM25_low : allLow QM25 = true := by decide +kernel
theorem QM25_len : QM25.length = 13 := by decide +kernel
theorem QM25_0 : QM25[0]? = some (.inr (.inr (8, [.inl 1, .inl 2, .inl 3, .inr false, .inl 4, .inr false, .inl 5, .inl 6, .inl 7, .inl 8, .inl 9, .inl 10, .inr false, .inl 11, .inl 12, .inr false, .inl 0, .inl 0, .inl 0, .inl 0, .inl 0, .inr false, .inl 0, .inl 0, .inl 0, .inl 0, .inr true, .inl 0, .inl 0, .inl 0, .inl 0, .inl 0, .inl 0]))) := by decide +kernel
def QM26 : List LC := [.inr (.inr (8, [.inl 1, .inl 2, .inl 3, .inr false, .inl 4, .inr false, .inl 5, .inl 6, .inl 7, .inl 8, .inl 9, .inl 10, .inr false, .inl 11, .inl 12, .inr false, .inl 0, .inl 0, .inl 0, .inl 0, .inl 0, .inr false, .inl 0, .inl 0, .inl 0, .inl 0, .inr true, .inl 0, .inl 0, .inl 0, .inl 0, .inl 0, .inl 0])), .inl (false, 204), .inl (false, 204), .inl (false, 204), .inl (false, 8), .inl (false, 48), .inl (false, 48), .inl (false, 48), .inl (false, 48), .inl (true, 48), .inl (false, 120), .inl (false, 16), .inl (false, 16), .inl (false, 800)]
theorem QM26_low : allLow QM26 = true := by decide +kernel
theorem QM26_len : QM26.length = 14 := by decide +kernel
theorem QM26_0 : QM26[0]? = some (.inr (.inr (8, [.inl 1, .inl 2, .inl 3, .inr false, .inl 4, .inr false, .inl 5, .inl 6, .inl 7, .inl 8, .inl 9, .inl 10, .inr false, .inl 11, .inl 12, .inr false, .inl 0, .inl 0, .inl 0, .inl 0, .inl 0, .inr false, .inl 0, .inl 0, .inl 0, .inl 0, .inr true, .inl 0, .inl 0, .inl 0, .inl 0, .inl 0, .inl 0]))) := by decide +kernel
def QM27 : List LC := [.inr (.inr (8, [.inl 1, .inl 2, .inl 3, .inr false, .inl 4, .inr false, .inl 5, .inl 6, .inl 7, .inl 8, .inl 9, .inl 10, .inr false, .inl 11, .inl 12, .inr false, .inl 13, .inl 0, .inl 0, .inl 0, .inl 0, .inr false, .inl 0, .inl 0, .inl 0, .inl 0, .inr true, .inl 0, .inl 0, .inl 0, .inl 0, .inl 0, .inl 0])), .inl (false, 204), .inl (false, 204), .inl (false, 204), .inl (false, 8), .inl (false, 48), .inl (false, 48), .inl (false, 48), .inl (false, 48), .inl (true, 48), .inl (false, 120), .inl (false, 16), .inl (false, 16), .inl (false, 800)]
theorem QM27_low : allLow QM27 = true := by decide +kernel
theorem QM27_len : QM27.length = 14 := by decide +kernel
theorem QM27_0 : QM27[0]? = some (.inr (.inr (8, [.inl 1, .inl 2, .inl 3, .inr false, .inl 4, .inr false, .inl 5, .inl 6, .inl 7, .inl 8, .inl 9, .inl 10, .inr false, .inl 11, .inl 12, .inr false, .inl 13, .inl 0, .inl 0, .inl 0, .inl 0, .inr false, .inl 0, .inl 0, .inl 0, .inl 0, .inr true, .inl 0, .inl 0, .inl 0, .inl 0, .inl 0, .inl 0]))) := by decide +kernel
def QM28 : List LC := [.inr (.inr (8, [.inl 1, .inl 2, .inl 3, .inr false, .inl 4, .inr false, .inl 5, .inl 6, .inl 7, .inl 8, .inl 9, .inl 10, .inr false, .inl 11, .inl 12, .inr false, .inl 13, .inl 0, .inl 0, .inl 0, .inl 0, .inr false, .inl 0, .inl 0, .inl 0, .inl 0, .inr true, .inl 0, .inl 0, .inl 0, .inl 0, .inl 0, .inl 0])), .inl (false, 204), .inl (false, 204), .inl (false, 204), .inl (false, 8), .inl (false, 48), .inl (false, 48), .inl (false, 48), .inl (false, 48), .inl (true, 48), .inl (false, 120), .inl (false, 16), .inl (false, 16), .inl (false, 800), .inl (false, 800)]
theorem QM28_low : allLow QM28 = true := by decide +kernel
theorem QM28_len : QM28.length = 15 := by decide +kernel
theorem QM28_0 : QM28[0]? = some (.inr (.inr (8, [.inl 1, .inl 2, .inl 3, .inr false, .inl 4, .inr false, .inl 5, .inl 6, .inl 7, .inl 8, .inl 9, .inl 10, .inr false, .inl 11, .inl 12, .inr false, .inl 13, .inl 0, .inl 0, .inl 0, .inl 0, .inr false, .inl 0, .inl 0, .inl 0, .inl 0, .inr true, .inl 0, .inl 0, .inl 0, .inl 0, .inl 0, .inl 0]))) := by decide +kernel
def QM29 : List LC := [.inr (.inr (8, [.inl 1, .inl 2, .inl 3, .inr false, .inl 4, .inr false, .inl 5, .inl 6, .inl 7, .inl 8, .inl 9, .inl 10, .inr false, .inl 11, .inl 12, .inr false, .inl 13, .inl 14, .inl 0, .inl 0, .inl 0, .inr false, .inl 0, .inl 0, .inl 0, .inl 0, .inr true, .inl 0, .inl 0, .inl 0, .inl 0, .inl 0, .inl 0])), .inl (false, 204), .inl (false, 204), .inl (false, 204), .inl (false, 8), .inl (false, 48), .inl (false, 48), .inl (false, 48), .inl (false, 48), .inl (true, 48), .inl (false, 120), .inl (false, 16), .inl (false, 16), .inl (false, 800), .inl (false, 800)]
theorem QM29_low : allLow QM29 = true := by decide +kernel
theorem QM29_len : QM29.length = 15 := by decide +kernel
theorem QM29_0 : QM29[0]? = some (.inr (.inr (8, [.inl 1, .inl 2, .inl 3, .inr false, .inl 4, .inr false, .inl 5, .inl 6, .inl 7, .inl 8, .inl 9, .inl 10, .inr false, .inl 11, .inl 12, .inr false, .inl 13, .inl 14, .inl 0, .inl 0, .inl 0, .inr false, .inl 0, .inl 0, .inl 0, .inl 0, .inr true, .inl 0, .inl 0, .inl 0, .inl 0, .inl 0, .inl 0]))) := by decide +kernel
def QM30 : List LC := [.inr (.inr (8, [.inl 1, .inl 2, .inl 3, .inr false, .inl 4, .inr false, .inl 5, .inl 6, .inl 7, .inl 8, .inl 9, .inl 10, .inr false, .inl 11, .inl 12, .inr false, .inl 13, .inl 14, .inl 0, .inl 0, .inl 0, .inr false, .inl 0, .inl 0, .inl 0, .inl 0, .inr true, .inl 0, .inl 0, .inl 0, .inl 0, .inl 0, .inl 0])), .inl (false, 204), .inl (false, 204), .inl (false, 204), .inl (false, 8), .inl (false, 48), .inl (false, 48), .inl (false, 48), .inl (false, 48), .inl (true, 48), .inl (false, 120), .inl (false, 16), .inl (false, 16), .inl (false, 800), .inl (false, 800), .inl (false, 800)]
theorem QM30_low : allLow QM30 = true := by decide +kernel
theorem QM30_len : QM30.length = 16 := by decide +kernel
theorem QM30_0 : QM30[0]? = some (.inr (.inr (8, [.inl 1, .inl 2, .inl 3, .inr false, .inl 4, .inr false, .inl 5, .inl 6, .inl 7, .inl 8, .inl 9, .inl 10, .inr false, .inl 11, .inl 12, .inr false, .inl 13, .inl 14, .inl 0, .inl 0, .inl 0, .inr false, .inl 0, .inl 0, .inl 0, .inl 0, .inr true, .inl 0, .inl 0, .inl 0, .inl 0, .inl 0, .inl 0]))) := by decide +kernel
def QM31 : List LC := [.inr (.inr (8, [.inl 1, .inl 2, .inl 3, .inr false, .inl 4, .inr false, .inl 5, .inl 6, .inl 7, .inl 8, .inl 9, .inl 10, .inr false, .inl 11, .inl 12, .inr false, .inl 13, .inl 14, .inl 15, .inl 0, .inl 0, .inr false, .inl 0, .inl 0, .inl 0, .inl 0, .inr true, .inl 0, .inl 0, .inl 0, .inl 0, .inl 0, .inl 0])), .inl (false, 204), .inl (false, 204), .inl (false, 204), .inl (false, 8), .inl (false, 48), .inl (false, 48), .inl (false, 48), .inl (false, 48), .inl (true, 48), .inl (false, 120), .inl (false, 16), .inl (false, 16), .inl (false, 800), .inl (false, 800), .inl (false, 800)]
theorem QM31_low : allLow QM31 = true := by decide +kernel
theorem QM31_len : QM31.length = 16 := by decide +kernel
theorem QM31_0 : QM31[0]? = some (.inr (.inr (8, [.inl 1, .inl 2, .inl 3, .inr false, .inl 4, .inr false, .inl 5, .inl 6, .inl 7, .inl 8, .inl 9, .inl 10, .inr false, .inl 11, .inl 12, .inr false, .inl 13, .inl 14, .inl 15, .inl 0, .inl 0, .inr false, .inl 0, .inl 0, .inl 0, .inl 0, .inr true, .inl 0, .inl 0, .inl 0, .inl 0, .inl 0, .inl 0]))) := by decide +kernel
def QM32 : List LC := [.inr (.inr (8, [.inl 1, .inl 2, .inl 3, .inr false, .inl 4, .inr false, .inl 5, .inl 6, .inl 7, .inl 8, .inl 9, .inl 10, .inr false, .inl 11, .inl 12, .inr false, .inl 13, .inl 14, .inl 15, .inl 0, .inl 0, .inr false, .inl 0, .inl 0, .inl 0, .inl 0, .inr true, .inl 0, .inl 0, .inl 0, .inl 0, .inl 0, .inl 0])), .inl (false, 204), .inl (false, 204), .inl (false, 204), .inl (false, 8), .inl (false, 48), .inl (false, 48), .inl (false, 48), .inl (false, 48), .inl (true, 48), .inl (false, 120), .inl (false, 16), .inl (false, 16), .inl (false, 800), .inl (false, 800), .inl (false, 800), .inl (false, 800)]
theorem QM32_low : allLow QM32 = true := by decide +kernel
theorem QM32_len : QM32.length = 17 := by decide +kernel
theorem QM32_0 : QM32[0]? = some (.inr (.inr (8, [.inl 1, .inl 2, .inl 3, .inr false, .inl 4, .inr false, .inl 5, .inl 6, .inl 7, .inl 8, .inl 9, .inl 10, .inr false, .inl 11, .inl 12, .inr false, .inl 13, .inl 14, .inl 15, .inl 0, .inl 0, .inr false, .inl 0, .inl 0, .inl 0, .inl 0, .inr true, .inl 0, .inl 0, .inl 0, .inl 0, .inl 0, .inl 0]))) := by decide +kernel
def QM33 : List LC := [.inr (.inr (8, [.inl 1, .inl 2, .inl 3, .inr false, .inl 4, .inr false, .inl 5, .inl 6, .inl 7, .inl 8, .inl 9, .inl 10, .inr false, .inl 11, .inl 12, .inr false, .inl 13, .inl 14, .inl 15, .inl 16, .inl 0, .inr false, .inl 0, .inl 0, .inl 0, .inl 0, .inr true, .inl 0, .inl 0, .inl 0, .inl 0, .inl 0, .inl 0])), .inl (false, 204), .inl (false, 204), .inl (false, 204), .inl (false, 8), .inl (false, 48), .inl (false, 48), .inl (false, 48), .inl (false, 48), .inl (true, 48), .inl (false, 120), .inl (false, 16), .inl (false, 16), .inl (false, 800), .inl (false, 800), .inl (false, 800), .inl (false, 800)]
theorem QM33_low : allLow QM33 = true := by decide +kernel
theorem QM33_len : QM33.length = 17 := by decide +kernel
theorem QM33_0 : QM33[0]? = some (.inr (.inr (8, [.inl 1, .inl 2, .inl 3, .inr false, .inl 4, .inr false, .inl 5, .inl 6, .inl 7, .inl 8, .inl 9, .inl 10, .inr false, .inl 11, .inl 12, .inr false, .inl 13, .inl 14, .inl 15, .inl 16, .inl 0, .inr false, .inl 0, .inl 0, .inl 0, .inl 0, .inr true, .inl 0, .inl 0, .inl 0, .inl 0, .inl 0, .inl 0]))) := by decide +kernel
def QM34 : List LC := [.inr (.inr (8, [.inl 1, .inl 2, .inl 3, .inr false, .inl 4, .inr false, .inl 5, .inl 6, .inl 7, .inl 8, .inl 9, .inl 10, .inr false, .inl 11, .inl 12, .inr false, .inl 13, .inl 14, .inl 15, .inl 16, .inl 0, .inr false, .inl 0, .inl 0, .inl 0, .inl 0, .inr true, .inl 0, .inl 0, .inl 0, .inl 0, .inl 0, .inl 0])), .inl (false, 204), .inl (false, 204), .inl (false, 204), .inl (false, 8), .inl (false, 48), .inl (false, 48), .inl (false, 48), .inl (false, 48), .inl (true, 48), .inl (false, 120), .inl (false, 16), .inl (false, 16), .inl (false, 800), .inl (false, 800), .inl (false, 800), .inl (false, 800), .inl (false, 800)]
theorem QM34_low : allLow QM34 = true := by decide +kernel
theorem QM34_len : QM34.length = 18 := by decide +kernel
theorem QM34_0 : QM34[0]? = some (.inr (.inr (8, [.inl 1, .inl 2, .inl 3, .inr false, .inl 4, .inr false, .inl 5, .inl 6, .inl 7, .inl 8, .inl 9, .inl 10, .inr false, .inl 11, .inl 12, .inr false, .inl 13, .inl 14, .inl 15, .inl 16, .inl 0, .inr false, .inl 0, .inl 0, .inl 0, .inl 0, .inr true, .inl 0, .inl 0, .inl 0, .inl 0, .inl 0, .inl 0]))) := by decide +kernel
def QM35 : List LC := [.inr (.inr (8, [.inl 1, .inl 2, .inl 3, .inr false, .inl 4, .inr false, .inl 5, .inl 6, .inl 7, .inl 8, .inl 9, .inl 10, .inr false, .inl 11, .inl 12, .inr false, .inl 13, .inl 14, .inl 15, .inl 16, .inl 17, .inr false, .inl 0, .inl 0, .inl 0, .inl 0, .inr true, .inl 0, .inl 0, .inl 0, .inl 0, .inl 0, .inl 0])), .inl (false, 204), .inl (false, 204), .inl (false, 204), .inl (false, 8), .inl (false, 48), .inl (false, 48), .inl (false, 48), .inl (false, 48), .inl (true, 48), .inl (false, 120), .inl (false, 16), .inl (false, 16), .inl (false, 800), .inl (false, 800), .inl (false, 800), .inl (false, 800), .inl (false, 800)]
theorem QM35_low : allLow QM35 = true := by decide +kernel
theorem QM35_len : QM35.length = 18 := by decide +kernel
theorem QM35_0 : QM35[0]? = some (.inr (.inr (8, [.inl 1, .inl 2, .inl 3, .inr false, .inl 4, .inr false, .inl 5, .inl 6, .inl 7, .inl 8, .inl 9, .inl 10, .inr false, .inl 11, .inl 12, .inr false, .inl 13, .inl 14, .inl 15, .inl 16, .inl 17, .inr false, .inl 0, .inl 0, .inl 0, .inl 0, .inr true, .inl 0, .inl 0, .inl 0, .inl 0, .inl 0, .inl 0]))) := by decide +kernel
def QM36 : List LC := [.inr (.inr (8, [.inl 1, .inl 2, .inl 3, .inr false, .inl 4, .inr false, .inl 5, .inl 6, .inl 7, .inl 8, .inl 9, .inl 10, .inr false, .inl 11, .inl 12, .inr false, .inl 13, .inl 14, .inl 15, .inl 16, .inl 17, .inr false, .inl 0, .inl 0, .inl 0, .inl 0, .inr true, .inl 0, .inl 0, .inl 0, .inl 0, .inl 0, .inl 0])), .inl (false, 204), .inl (false, 204), .inl (false, 204), .inl (false, 8), .inl (false, 48), .inl (false, 48), .inl (false, 48), .inl (false, 48), .inl (true, 48), .inl (false, 120), .inl (false, 16), .inl (false, 16), .inl (false, 800), .inl (false, 800), .inl (false, 800), .inl (false, 800), .inl (false, 800), .inl (false, 800)]
theorem QM36_low : allLow QM36 = true := by decide +kernel
theorem QM36_len : QM36.length = 19 := by decide +kernel
theorem QM36_0 : QM36[0]? = some (.inr (.inr (8, [.inl 1, .inl 2, .inl 3, .inr false, .inl 4, .inr false, .inl 5, .inl 6, .inl 7, .inl 8, .inl 9, .inl 10, .inr false, .inl 11, .inl 12, .inr false, .inl 13, .inl 14, .inl 15, .inl 16, .inl 17, .inr false, .inl 0, .inl 0, .inl 0, .inl 0, .inr true, .inl 0, .inl 0, .inl 0, .inl 0, .inl 0, .inl 0]))) := by decide +kernel
def QM37 : List LC := [.inr (.inr (8, [.inl 1, .inl 2, .inl 3, .inr false, .inl 4, .inr false, .inl 5, .inl 6, .inl 7, .inl 8, .inl 9, .inl 10, .inr false, .inl 11, .inl 12, .inr false, .inl 13, .inl 14, .inl 15, .inl 16, .inl 17, .inr false, .inl 18, .inl 0, .inl 0, .inl 0, .inr true, .inl 0, .inl 0, .inl 0, .inl 0, .inl 0, .inl 0])), .inl (false, 204), .inl (false, 204), .inl (false, 204), .inl (false, 8), .inl (false, 48), .inl (false, 48), .inl (false, 48), .inl (false, 48), .inl (true, 48), .inl (false, 120), .inl (false, 16), .inl (false, 16), .inl (false, 800), .inl (false, 800), .inl (false, 800), .inl (false, 800), .inl (false, 800), .inl (false, 800)]
theorem QM37_low : allLow QM37 = true := by decide +kernel
theorem QM37_len : QM37.length = 19 := by decide +kernel
theorem QM37_0 : QM37[0]? = some (.inr (.inr (8, [.inl 1, .inl 2, .inl 3, .inr false, .inl 4, .inr false, .inl 5, .inl 6, .inl 7, .inl 8, .inl 9, .inl 10, .inr false, .inl 11, .inl 12, .inr false, .inl 13, .inl 14, .inl 15, .inl 16, .inl 17, .inr false, .inl 18, .inl 0, .inl 0, .inl 0, .inr true, .inl 0, .inl 0, .inl 0, .inl 0, .inl 0, .inl 0]))) := by decide +kernel
def QM38 : List LC := [.inr (.inr (8, [.inl 1, .inl 2, .inl 3, .inr false, .inl 4, .inr false, .inl 5, .inl 6, .inl 7, .inl 8, .inl 9, .inl 10, .inr false, .inl 11, .inl 12, .inr false, .inl 13, .inl 14, .inl 15, .inl 16, .inl 17, .inr false, .inl 18, .inl 0, .inl 0, .inl 0, .inr true, .inl 0, .inl 0, .inl 0, .inl 0, .inl 0, .inl 0])), .inl (false, 204), .inl (false, 204), .inl (false, 204), .inl (false, 8), .inl (false, 48), .inl (false, 48), .inl (false, 48), .inl (false, 48), .inl (true, 48), .inl (false, 120), .inl (false, 16), .inl (false, 16), .inl (false, 800), .inl (false, 800), .inl (false, 800), .inl (false, 800), .inl (false, 800), .inl (false, 800), .inl (false, 800)]
theorem QM38_low : allLow QM38 = true := by decide +kernel
theorem QM38_len : QM38.length = 20 := by decide +kernel
theorem QM38_0 : QM38[0]? = some (.inr (.inr (8, [.inl 1, .inl 2, .inl 3, .inr false, .inl 4, .inr false, .inl 5, .inl 6, .inl 7, .inl 8, .inl 9, .inl 10, .inr false, .inl 11, .inl 12, .inr false, .inl 13, .inl 14, .inl 15, .inl 16, .inl 17, .inr false, .inl 18, .inl 0, .inl 0, .inl 0, .inr true, .inl 0, .inl 0, .inl 0, .inl 0, .inl 0, .inl 0]))) := by decide +kernel
def QM39 : List LC := [.inr (.inr (8, [.inl 1, .inl 2, .inl 3, .inr false, .inl 4, .inr false, .inl 5, .inl 6, .inl 7, .inl 8, .inl 9, .inl 10, .inr false, .inl 11, .inl 12, .inr false, .inl 13, .inl 14, .inl 15, .inl 16, .inl 17, .inr false, .inl 18, .inl 19, .inl 0, .inl 0, .inr true, .inl 0, .inl 0, .inl 0, .inl 0, .inl 0, .inl 0])), .inl (false, 204), .inl (false, 204), .inl (false, 204), .inl (false, 8), .inl (false, 48), .inl (false, 48), .inl (false, 48), .inl (false, 48), .inl (true, 48), .inl (false, 120), .inl (false, 16), .inl (false, 16), .inl (false, 800), .inl (false, 800), .inl (false, 800), .inl (false, 800), .inl (false, 800), .inl (false, 800), .inl (false, 800)]
theorem QM39_low : allLow QM39 = true := by decide +kernel
theorem QM39_len : QM39.length = 20 := by decide +kernel
theorem QM39_0 : QM39[0]? = some (.inr (.inr (8, [.inl 1, .inl 2, .inl 3, .inr false, .inl 4, .inr false, .inl 5, .inl 6, .inl 7, .inl 8, .inl 9, .inl 10, .inr false, .inl 11, .inl 12, .inr false, .inl 13, .inl 14, .inl 15, .inl 16, .inl 17, .inr false, .inl 18, .inl 19, .inl 0, .inl 0, .inr true, .inl 0, .inl 0, .inl 0, .inl 0, .inl 0, .inl 0]))) := by decide +kernel
def QM40 : List LC := [.inr (.inr (8, [.inl 1, .inl 2, .inl 3, .inr false, .inl 4, .inr false, .inl 5, .inl 6, .inl 7, .inl 8, .inl 9, .inl 10, .inr false, .inl 11, .inl 12, .inr false, .inl 13, .inl 14, .inl 15, .inl 16, .inl 17, .inr false, .inl 18, .inl 19, .inl 0, .inl 0, .inr true, .inl 0, .inl 0, .inl 0, .inl 0, .inl 0, .inl 0])), .inl (false, 204), .inl (false, 204), .inl (false, 204), .inl (false, 8), .inl (false, 48), .inl (false, 48), .inl (false, 48), .inl (false, 48), .inl (true, 48), .inl (false, 120), .inl (false, 16), .inl (false, 16), .inl (false, 800), .inl (false, 800), .inl (false, 800), .inl (false, 800), .inl (false, 800), .inl (false, 800), .inl (false, 800), .inl (false, 800)]
theorem QM40_low : allLow QM40 = true := by decide +kernel
theorem QM40_len : QM40.length = 21 := by decide +kernel
theorem QM40_0 : QM40[0]? = some (.inr (.inr (8, [.inl 1, .inl 2, .inl 3, .inr false, .inl 4, .inr false, .inl 5, .inl 6, .inl 7, .inl 8, .inl 9, .inl 10, .inr false, .inl 11, .inl 12, .inr false, .inl 13, .inl 14, .inl 15, .inl 16, .inl 17, .inr false, .inl 18, .inl 19, .inl 0, .inl 0, .inr true, .inl 0, .inl 0, .inl 0, .inl 0, .inl 0, .inl 0]))) := by decide +kernel
def QM41 : List LC := [.inr (.inr (8, [.inl 1, .inl 2, .inl 3, .inr false, .inl 4, .inr false, .inl 5, .inl 6, .inl 7, .inl 8, .inl 9, .inl 10, .inr false, .inl 11, .inl 12, .inr false, .inl 13, .inl 14, .inl 15, .inl 16, .inl 17, .inr false, .inl 18, .inl 19, .inl 20, .inl 0, .inr true, .inl 0, .inl 0, .inl 0, .inl 0, .inl 0, .inl 0])), .inl (false, 204), .inl (false, 204), .inl (false, 204), .inl (false, 8), .inl (false, 48), .inl (false, 48), .inl (false, 48), .inl (false, 48), .inl (true, 48), .inl (false, 120), .inl (false, 16), .inl (false, 16), .inl (false, 800), .inl (false, 800), .inl (false, 800), .inl (false, 800), .inl (false, 800), .inl (false, 800), .inl (false, 800), .inl (false, 800)]
theorem QM41_low : allLow QM41 = true := by decide +kernel
theorem QM41_len : QM41.length = 21 := by decide +kernel
theorem QM41_0 : QM41[0]? = some (.inr (.inr (8, [.inl 1, .inl 2, .inl 3, .inr false, .inl 4, .inr false, .inl 5, .inl 6, .inl 7, .inl 8, .inl 9, .inl 10, .inr false, .inl 11, .inl 12, .inr false, .inl 13, .inl 14, .inl 15, .inl 16, .inl 17, .inr false, .inl 18, .inl 19, .inl 20, .inl 0, .inr true, .inl 0, .inl 0, .inl 0, .inl 0, .inl 0, .inl 0]))) := by decide +kernel
def QM42 : List LC := [.inr (.inr (8, [.inl 1, .inl 2, .inl 3, .inr false, .inl 4, .inr false, .inl 5, .inl 6, .inl 7, .inl 8, .inl 9, .inl 10, .inr false, .inl 11, .inl 12, .inr false, .inl 13, .inl 14, .inl 15, .inl 16, .inl 17, .inr false, .inl 18, .inl 19, .inl 20, .inl 0, .inr true, .inl 0, .inl 0, .inl 0, .inl 0, .inl 0, .inl 0])), .inl (false, 204), .inl (false, 204), .inl (false, 204), .inl (false, 8), .inl (false, 48), .inl (false, 48), .inl (false, 48), .inl (false, 48), .inl (true, 48), .inl (false, 120), .inl (false, 16), .inl (false, 16), .inl (false, 800), .inl (false, 800), .inl (false, 800), .inl (false, 800), .inl (false, 800), .inl (false, 800), .inl (false, 800), .inl (false, 800), .inl (false, 48)]
theorem QM42_low : allLow QM42 = true := by decide +kernel
theorem QM42_len : QM42.length = 22 := by decide +kernel
theorem QM42_0 : QM42[0]? = some (.inr (.inr (8, [.inl 1, .inl 2, .inl 3, .inr false, .inl 4, .inr false, .inl 5, .inl 6, .inl 7, .inl 8, .inl 9, .inl 10, .inr false, .inl 11, .inl 12, .inr false, .inl 13, .inl 14, .inl 15, .inl 16, .inl 17, .inr false, .inl 18, .inl 19, .inl 20, .inl 0, .inr true, .inl 0, .inl 0, .inl 0, .inl 0, .inl 0, .inl 0]))) := by decide +kernel
def QM43 : List LC := [.inr (.inr (8, [.inl 1, .inl 2, .inl 3, .inr false, .inl 4, .inr false, .inl 5, .inl 6, .inl 7, .inl 8, .inl 9, .inl 10, .inr false, .inl 11, .inl 12, .inr false, .inl 13, .inl 14, .inl 15, .inl 16, .inl 17, .inr false, .inl 18, .inl 19, .inl 20, .inl 21, .inr true, .inl 0, .inl 0, .inl 0, .inl 0, .inl 0, .inl 0])), .inl (false, 204), .inl (false, 204), .inl (false, 204), .inl (false, 8), .inl (false, 48), .inl (false, 48), .inl (false, 48), .inl (false, 48), .inl (true, 48), .inl (false, 120), .inl (false, 16), .inl (false, 16), .inl (false, 800), .inl (false, 800), .inl (false, 800), .inl (false, 800), .inl (false, 800), .inl (false, 800), .inl (false, 800), .inl (false, 800), .inl (false, 48)]
theorem QM43_low : allLow QM43 = true := by decide +kernel
theorem QM43_len : QM43.length = 22 := by decide +kernel
theorem QM43_0 : QM43[0]? = some (.inr (.inr (8, [.inl 1, .inl 2, .inl 3, .inr false, .inl 4, .inr false, .inl 5, .inl 6, .inl 7, .inl 8, .inl 9, .inl 10, .inr false, .inl 11, .inl 12, .inr false, .inl 13, .inl 14, .inl 15, .inl 16, .inl 17, .inr false, .inl 18, .inl 19, .inl 20, .inl 21, .inr true, .inl 0, .inl 0, .inl 0, .inl 0, .inl 0, .inl 0]))) := by decide +kernel
def QM44 : List LC := [.inr (.inr (8, [.inl 1, .inl 2, .inl 3, .inr false, .inl 4, .inr false, .inl 5, .inl 6, .inl 7, .inl 8, .inl 9, .inl 10, .inr false, .inl 11, .inl 12, .inr false, .inl 13, .inl 14, .inl 15, .inl 16, .inl 17, .inr false, .inl 18, .inl 19, .inl 20, .inl 21, .inr true, .inl 0, .inl 0, .inl 0, .inl 0, .inl 0, .inl 0])), .inl (false, 204), .inl (false, 204), .inl (false, 204), .inl (false, 8), .inl (false, 48), .inl (false, 48), .inl (false, 48), .inl (false, 48), .inl (true, 48), .inl (false, 120), .inl (false, 16), .inl (false, 16), .inl (false, 800), .inl (false, 800), .inl (false, 800), .inl (false, 800), .inl (false, 800), .inl (false, 800), .inl (false, 800), .inl (false, 800), .inl (false, 48), .inl (false, 8192)]
theorem QM44_low : allLow QM44 = true := by decide +kernel
theorem QM44_len : QM44.length = 23 := by decide +kernel
theorem QM44_0 : QM44[0]? = some (.inr (.inr (8, [.inl 1, .inl 2, .inl 3, .inr false, .inl 4, .inr false, .inl 5, .inl 6, .inl 7, .inl 8, .inl 9, .inl 10, .inr false, .inl 11, .inl 12, .inr false, .inl 13, .inl 14, .inl 15, .inl 16, .inl 17, .inr false, .inl 18, .inl 19, .inl 20, .inl 21, .inr true, .inl 0, .inl 0, .inl 0, .inl 0, .inl 0, .inl 0]))) := by decide +kernel
def QM45 : List LC := [.inr (.inr (8, [.inl 1, .inl 2, .inl 3, .inr false, .inl 4, .inr false, .inl 5, .inl 6, .inl 7, .inl 8, .inl 9, .inl 10, .inr false, .inl 11, .inl 12, .inr false, .inl 13, .inl 14, .inl 15, .inl 16, .inl 17, .inr false, .inl 18, .inl 19, .inl 20, .inl 21, .inr true, .inl 22, .inl 0, .inl 0, .inl 0, .inl 0, .inl 0])), .inl (false, 204), .inl (false, 204), .inl (false, 204), .inl (false, 8), .inl (false, 48), .inl (false, 48), .inl (false, 48), .inl (false, 48), .inl (true, 48), .inl (false, 120), .inl (false, 16), .inl (false, 16), .inl (false, 800), .inl (false, 800), .inl (false, 800), .inl (false, 800), .inl (false, 800), .inl (false, 800), .inl (false, 800), .inl (false, 800), .inl (false, 48), .inl (false, 8192)]
theorem QM45_low : allLow QM45 = true := by decide +kernel
theorem QM45_len : QM45.length = 23 := by decide +kernel
theorem QM45_0 : QM45[0]? = some (.inr (.inr (8, [.inl 1, .inl 2, .inl 3, .inr false, .inl 4, .inr false, .inl 5, .inl 6, .inl 7, .inl 8, .inl 9, .inl 10, .inr false, .inl 11, .inl 12, .inr false, .inl 13, .inl 14, .inl 15, .inl 16, .inl 17, .inr false, .inl 18, .inl 19, .inl 20, .inl 21, .inr true, .inl 22, .inl 0, .inl 0, .inl 0, .inl 0, .inl 0]))) := by decide +kernel
def QM46 : List LC := [.inr (.inr (8, [.inl 1, .inl 2, .inl 3, .inr false, .inl 4, .inr false, .inl 5, .inl 6, .inl 7, .inl 8, .inl 9, .inl 10, .inr false, .inl 11, .inl 12, .inr false, .inl 13, .inl 14, .inl 15, .inl 16, .inl 17, .inr false, .inl 18, .inl 19, .inl 20, .inl 21, .inr true, .inl 22, .inl 0, .inl 0, .inl 0, .inl 0, .inl 0])), .inl (false, 204), .inl (false, 204), .inl (false, 204), .inl (false, 8), .inl (false, 48), .inl (false, 48), .inl (false, 48), .inl (false, 48), .inl (true, 48), .inl (false, 120), .inl (false, 16), .inl (false, 16), .inl (false, 800), .inl (false, 800), .inl (false, 800), .inl (false, 800), .inl (false, 800), .inl (false, 800), .inl (false, 800), .inl (false, 800), .inl (false, 48), .inl (false, 8192), .inl (true, 8192)]
theorem QM46_low : allLow QM46 = true := by decide +kernel
theorem QM46_len : QM46.length = 24 := by decide +kernel
theorem QM46_0 : QM46[0]? = some (.inr (.inr (8, [.inl 1, .inl 2, .inl 3, .inr false, .inl 4, .inr false, .inl 5, .inl 6, .inl 7, .inl 8, .inl 9, .inl 10, .inr false, .inl 11, .inl 12, .inr false, .inl 13, .inl 14, .inl 15, .inl 16, .inl 17, .inr false, .inl 18, .inl 19, .inl 20, .inl 21, .inr true, .inl 22, .inl 0, .inl 0, .inl 0, .inl 0, .inl 0]))) := by decide +kernel
def QM47 : List LC := [.inr (.inr (8, [.inl 1, .inl 2, .inl 3, .inr false, .inl 4, .inr false, .inl 5, .inl 6, .inl 7, .inl 8, .inl 9, .inl 10, .inr false, .inl 11, .inl 12, .inr false, .inl 13, .inl 14, .inl 15, .inl 16, .inl 17, .inr false, .inl 18, .inl 19, .inl 20, .inl 21, .inr true, .inl 22, .inl 23, .inl 0, .inl 0, .inl 0, .inl 0])), .inl (false, 204), .inl (false, 204), .inl (false, 204), .inl (false, 8), .inl (false, 48), .inl (false, 48), .inl (false, 48), .inl (false, 48), .inl (true, 48), .inl (false, 120), .inl (false, 16), .inl (false, 16), .inl (false, 800), .inl (false, 800), .inl (false, 800), .inl (false, 800), .inl (false, 800), .inl (false, 800), .inl (false, 800), .inl (false, 800), .inl (false, 48), .inl (false, 8192), .inl (true, 8192)]
theorem QM47_low : allLow QM47 = true := by decide +kernel
theorem QM47_len : QM47.length = 24 := by decide +kernel
theorem QM47_0 : QM47[0]? = some (.inr (.inr (8, [.inl 1, .inl 2, .inl 3, .inr false, .inl 4, .inr false, .inl 5, .inl 6, .inl 7, .inl 8, .inl 9, .inl 10, .inr false, .inl 11, .inl 12, .inr false, .inl 13, .inl 14, .inl 15, .inl 16, .inl 17, .inr false, .inl 18, .inl 19, .inl 20, .inl 21, .inr true, .inl 22, .inl 23, .inl 0, .inl 0, .inl 0, .inl 0]))) := by decide +kernel
def QM48 : List LC := [.inr (.inr (8, [.inl 1, .inl 2, .inl 3, .inr false, .inl 4, .inr false, .inl 5, .inl 6, .inl 7, .inl 8, .inl 9, .inl 10, .inr false, .inl 11, .inl 12, .inr false, .inl 13, .inl 14, .inl 15, .inl 16, .inl 17, .inr false, .inl 18, .inl 19, .inl 20, .inl 21, .inr true, .inl 22, .inl 23, .inl 0, .inl 0, .inl 0, .inl 0])), .inl (false, 204), .inl (false, 204), .inl (false, 204), .inl (false, 8), .inl (false, 48), .inl (false, 48), .inl (false, 48), .inl (false, 48), .inl (true, 48), .inl (false, 120), .inl (false, 16), .inl (false, 16), .inl (false, 800), .inl (false, 800), .inl (false, 800), .inl (false, 800), .inl (false, 800), .inl (false, 800), .inl (false, 800), .inl (false, 800), .inl (false, 48), .inl (false, 8192), .inl (true, 8192), .inl (false, 4)]
theorem QM48_low : allLow QM48 = true := by decide +kernel
theorem QM48_len : QM48.length = 25 := by decide +kernel
theorem QM48_0 : QM48[0]? = some (.inr (.inr (8, [.inl 1, .inl 2, .inl 3, .inr false, .inl 4, .inr false, .inl 5, .inl 6, .inl 7, .inl 8, .inl 9, .inl 10, .inr false, .inl 11, .inl 12, .inr false, .inl 13, .inl 14, .inl 15, .inl 16, .inl 17, .inr false, .inl 18, .inl 19, .inl 20, .inl 21, .inr true, .inl 22, .inl 23, .inl 0, .inl 0, .inl 0, .inl 0]))) := by decide +kernel
theorem QM48_s25 : QM48[24]? = some (.inl (false, 4)) := by decide +kernel
theorem QM48_s26 : QM48[24]? = some (.inl (false, 4)) := by decide +kernel
theorem QM48_s27 : QM48[24]? = some (.inl (false, 4)) := by decide +kernel
theorem QM48_s28 : QM48[24]? = some (.inl (false, 4)) := by decide +kernel
def QM49 : List LC := [.inr (.inr (8, [.inl 1, .inl 2, .inl 3, .inr false, .inl 4, .inr false, .inl 5, .inl 6, .inl 7, .inl 8, .inl 9, .inl 10, .inr false, .inl 11, .inl 12, .inr false, .inl 13, .inl 14, .inl 15, .inl 16, .inl 17, .inr false, .inl 18, .inl 19, .inl 20, .inl 21, .inr true, .inl 22, .inl 23, .inl 24, .inl 0, .inl 0, .inl 0])), .inl (false, 204), .inl (false, 204), .inl (false, 204), .inl (false, 8), .inl (false, 48), .inl (false, 48), .inl (false, 48), .inl (false, 48), .inl (true, 48), .inl (false, 120), .inl (false, 16), .inl (false, 16), .inl (false, 800), .inl (false, 800), .inl (false, 800), .inl (false, 800), .inl (false, 800), .inl (false, 800), .inl (false, 800), .inl (false, 800), .inl (false, 48), .inl (false, 8192), .inl (true, 8192), .inl (false, 4)]
theorem QM49_low : allLow QM49 = true := by decide +kernel
theorem QM49_len : QM49.length = 25 := by decide +kernel
theorem QM49_0 : QM49[0]? = some (.inr (.inr (8, [.inl 1, .inl 2, .inl 3, .inr false, .inl 4, .inr false, .inl 5, .inl 6, .inl 7, .inl 8, .inl 9, .inl 10, .inr false, .inl 11, .inl 12, .inr false, .inl 13, .inl 14, .inl 15, .inl 16, .inl 17, .inr false, .inl 18, .inl 19, .inl 20, .inl 21, .inr true, .inl 22, .inl 23, .inl 24, .inl 0, .inl 0, .inl 0]))) := by decide +kernel
def QM50 : List LC := [.inr (.inr (8, [.inl 1, .inl 2, .inl 3, .inr false, .inl 4, .inr false, .inl 5, .inl 6, .inl 7, .inl 8, .inl 9, .inl 10, .inr false, .inl 11, .inl 12, .inr false, .inl 13, .inl 14, .inl 15, .inl 16, .inl 17, .inr false, .inl 18, .inl 19, .inl 20, .inl 21, .inr true, .inl 22, .inl 23, .inl 24, .inl 0, .inl 0, .inl 0])), .inl (false, 204), .inl (false, 204), .inl (false, 204), .inl (false, 8), .inl (false, 48), .inl (false, 48), .inl (false, 48), .inl (false, 48), .inl (true, 48), .inl (false, 120), .inl (false, 16), .inl (false, 16), .inl (false, 800), .inl (false, 800), .inl (false, 800), .inl (false, 800), .inl (false, 800), .inl (false, 800), .inl (false, 800), .inl (false, 800), .inl (false, 48), .inl (false, 8192), .inl (true, 8192), .inl (false, 4), .inl (false, 4)]
theorem QM50_low : allLow QM50 = true := by decide +kernel
theorem QM50_len : QM50.length = 26 := by decide +kernel
theorem QM50_0 : QM50[0]? = some (.inr (.inr (8, [.inl 1, .inl 2, .inl 3, .inr false, .inl 4, .inr false, .inl 5, .inl 6, .inl 7, .inl 8, .inl 9, .inl 10, .inr false, .inl 11, .inl 12, .inr false, .inl 13, .inl 14, .inl 15, .inl 16, .inl 17, .inr false, .inl 18, .inl 19, .inl 20, .inl 21, .inr true, .inl 22, .inl 23, .inl 24, .inl 0, .inl 0, .inl 0]))) := by decide +kernel
def QM51 : List LC := [.inr (.inr (8, [.inl 1, .inl 2, .inl 3, .inr false, .inl 4, .inr false, .inl 5, .inl 6, .inl 7, .inl 8, .inl 9, .inl 10, .inr false, .inl 11, .inl 12, .inr false, .inl 13, .inl 14, .inl 15, .inl 16, .inl 17, .inr false, .inl 18, .inl 19, .inl 20, .inl 21, .inr true, .inl 22, .inl 23, .inl 24, .inl 25, .inl 0, .inl 0])), .inl (false, 204), .inl (false, 204), .inl (false, 204), .inl (false, 8), .inl (false, 48), .inl (false, 48), .inl (false, 48), .inl (false, 48), .inl (true, 48), .inl (false, 120), .inl (false, 16), .inl (false, 16), .inl (false, 800), .inl (false, 800), .inl (false, 800), .inl (false, 800), .inl (false, 800), .inl (false, 800), .inl (false, 800), .inl (false, 800), .inl (false, 48), .inl (false, 8192), .inl (true, 8192), .inl (false, 4), .inl (false, 4)]
theorem QM51_low : allLow QM51 = true := by decide +kernel
theorem QM51_len : QM51.length = 26 := by decide +kernel
theorem QM51_0 : QM51[0]? = some (.inr (.inr (8, [.inl 1, .inl 2, .inl 3, .inr false, .inl 4, .inr false, .inl 5, .inl 6, .inl 7, .inl 8, .inl 9, .inl 10, .inr false, .inl 11, .inl 12, .inr false, .inl 13, .inl 14, .inl 15, .inl 16, .inl 17, .inr false, .inl 18, .inl 19, .inl 20, .inl 21, .inr true, .inl 22, .inl 23, .inl 24, .inl 25, .inl 0, .inl 0]))) := by decide +kernel
def QM52 : List LC := [.inr (.inr (8, [.inl 1, .inl 2, .inl 3, .inr false, .inl 4, .inr false, .inl 5, .inl 6, .inl 7, .inl 8, .inl 9, .inl 10, .inr false, .inl 11, .inl 12, .inr false, .inl 13, .inl 14, .inl 15, .inl 16, .inl 17, .inr false, .inl 18, .inl 19, .inl 20, .inl 21, .inr true, .inl 22, .inl 23, .inl 24, .inl 25, .inl 0, .inl 0])), .inl (false, 204), .inl (false, 204), .inl (false, 204), .inl (false, 8), .inl (false, 48), .inl (false, 48), .inl (false, 48), .inl (false, 48), .inl (true, 48), .inl (false, 120), .inl (false, 16), .inl (false, 16), .inl (false, 800), .inl (false, 800), .inl (false, 800), .inl (false, 800), .inl (false, 800), .inl (false, 800), .inl (false, 800), .inl (false, 800), .inl (false, 48), .inl (false, 8192), .inl (true, 8192), .inl (false, 4), .inl (false, 4), .inl (true, 240)]
theorem QM52_low : allLow QM52 = true := by decide +kernel
theorem QM52_len : QM52.length = 27 := by decide +kernel
theorem QM52_0 : QM52[0]? = some (.inr (.inr (8, [.inl 1, .inl 2, .inl 3, .inr false, .inl 4, .inr false, .inl 5, .inl 6, .inl 7, .inl 8, .inl 9, .inl 10, .inr false, .inl 11, .inl 12, .inr false, .inl 13, .inl 14, .inl 15, .inl 16, .inl 17, .inr false, .inl 18, .inl 19, .inl 20, .inl 21, .inr true, .inl 22, .inl 23, .inl 24, .inl 25, .inl 0, .inl 0]))) := by decide +kernel
def QM53 : List LC := [.inr (.inr (8, [.inl 1, .inl 2, .inl 3, .inr false, .inl 4, .inr false, .inl 5, .inl 6, .inl 7, .inl 8, .inl 9, .inl 10, .inr false, .inl 11, .inl 12, .inr false, .inl 13, .inl 14, .inl 15, .inl 16, .inl 17, .inr false, .inl 18, .inl 19, .inl 20, .inl 21, .inr true, .inl 22, .inl 23, .inl 24, .inl 25, .inl 26, .inl 0])), .inl (false, 204), .inl (false, 204), .inl (false, 204), .inl (false, 8), .inl (false, 48), .inl (false, 48), .inl (false, 48), .inl (false, 48), .inl (true, 48), .inl (false, 120), .inl (false, 16), .inl (false, 16), .inl (false, 800), .inl (false, 800), .inl (false, 800), .inl (false, 800), .inl (false, 800), .inl (false, 800), .inl (false, 800), .inl (false, 800), .inl (false, 48), .inl (false, 8192), .inl (true, 8192), .inl (false, 4), .inl (false, 4), .inl (true, 240)]
theorem QM53_low : allLow QM53 = true := by decide +kernel
theorem QM53_len : QM53.length = 27 := by decide +kernel
theorem QM53_0 : QM53[0]? = some (.inr (.inr (8, [.inl 1, .inl 2, .inl 3, .inr false, .inl 4, .inr false, .inl 5, .inl 6, .inl 7, .inl 8, .inl 9, .inl 10, .inr false, .inl 11, .inl 12, .inr false, .inl 13, .inl 14, .inl 15, .inl 16, .inl 17, .inr false, .inl 18, .inl 19, .inl 20, .inl 21, .inr true, .inl 22, .inl 23, .inl 24, .inl 25, .inl 26, .inl 0]))) := by decide +kernel
def QM54 : List LC := [.inr (.inr (8, [.inl 1, .inl 2, .inl 3, .inr false, .inl 4, .inr false, .inl 5, .inl 6, .inl 7, .inl 8, .inl 9, .inl 10, .inr false, .inl 11, .inl 12, .inr false, .inl 13, .inl 14, .inl 15, .inl 16, .inl 17, .inr false, .inl 18, .inl 19, .inl 20, .inl 21, .inr true, .inl 22, .inl 23, .inl 24, .inl 25, .inl 26, .inl 0])), .inl (false, 204), .inl (false, 204), .inl (false, 204), .inl (false, 8), .inl (false, 48), .inl (false, 48), .inl (false, 48), .inl (false, 48), .inl (true, 48), .inl (false, 120), .inl (false, 16), .inl (false, 16), .inl (false, 800), .inl (false, 800), .inl (false, 800), .inl (false, 800), .inl (false, 800), .inl (false, 800), .inl (false, 800), .inl (false, 800), .inl (false, 48), .inl (false, 8192), .inl (true, 8192), .inl (false, 4), .inl (false, 4), .inl (true, 240), .inl (false, 12800)]
theorem QM54_low : allLow QM54 = true := by decide +kernel
theorem QM54_len : QM54.length = 28 := by decide +kernel
theorem QM54_0 : QM54[0]? = some (.inr (.inr (8, [.inl 1, .inl 2, .inl 3, .inr false, .inl 4, .inr false, .inl 5, .inl 6, .inl 7, .inl 8, .inl 9, .inl 10, .inr false, .inl 11, .inl 12, .inr false, .inl 13, .inl 14, .inl 15, .inl 16, .inl 17, .inr false, .inl 18, .inl 19, .inl 20, .inl 21, .inr true, .inl 22, .inl 23, .inl 24, .inl 25, .inl 26, .inl 0]))) := by decide +kernel
def QM55 : List LC := [.inr (.inr (8, [.inl 1, .inl 2, .inl 3, .inr false, .inl 4, .inr false, .inl 5, .inl 6, .inl 7, .inl 8, .inl 9, .inl 10, .inr false, .inl 11, .inl 12, .inr false, .inl 13, .inl 14, .inl 15, .inl 16, .inl 17, .inr false, .inl 18, .inl 19, .inl 20, .inl 21, .inr true, .inl 22, .inl 23, .inl 24, .inl 25, .inl 26, .inl 27])), .inl (false, 204), .inl (false, 204), .inl (false, 204), .inl (false, 8), .inl (false, 48), .inl (false, 48), .inl (false, 48), .inl (false, 48), .inl (true, 48), .inl (false, 120), .inl (false, 16), .inl (false, 16), .inl (false, 800), .inl (false, 800), .inl (false, 800), .inl (false, 800), .inl (false, 800), .inl (false, 800), .inl (false, 800), .inl (false, 800), .inl (false, 48), .inl (false, 8192), .inl (true, 8192), .inl (false, 4), .inl (false, 4), .inl (true, 240), .inl (false, 12800)]
theorem QM55_low : allLow QM55 = true := by decide +kernel
theorem QM55_len : QM55.length = 28 := by decide +kernel
theorem QM55_0 : QM55[0]? = some (.inr (.inr (8, [.inl 1, .inl 2, .inl 3, .inr false, .inl 4, .inr false, .inl 5, .inl 6, .inl 7, .inl 8, .inl 9, .inl 10, .inr false, .inl 11, .inl 12, .inr false, .inl 13, .inl 14, .inl 15, .inl 16, .inl 17, .inr false, .inl 18, .inl 19, .inl 20, .inl 21, .inr true, .inl 22, .inl 23, .inl 24, .inl 25, .inl 26, .inl 27]))) := by decide +kernel
theorem LM_is : QM55 = LM := by decide +kernel
set_option maxHeartbeats 4000000 in
set_option maxRecDepth 100000 in
theorem c_Model_init {aK aV : Nat → Nat} {fq B0 : Nat} (l : Launch) (G : GT) (h0 sz : Nat) (hB0 : B0 ≤ h0) : Met l yX8_init wsX8_init (rmc 4 85 28 36898) (Kp vwCl G (.inr (.inr (8, [.inl 0, .inl 0, .inl 0, .inr false, .inl 0, .inr false, .inl 0, .inl 0, .inl 0, .inl 0, .inl 0, .inl 0, .inr false, .inl 0, .inl 0, .inr false, .inl 0, .inl 0, .inl 0, .inl 0, .inl 0, .inr false, .inl 0, .inl 0, .inl 0, .inl 0, .inr true, .inl 0, .inl 0, .inl 0, .inl 0, .inl 0, .inl 0]))) (ZX8 aK aV fq B0) h0 sz) (Kq vwCl G LM PX8 h0 sz) 28 36898 (Af h0 sz) := by
  refine x_metc (own := RX8) (by decide) rfl rfl rfl (by decide) (by decide +kernel) ?_
  intro p e s m args below meth c R QQ A X hin2 hR hA hA2 hZ hret ad0 ls he0 hl hw
  obtain ⟨hX, hAO⟩ := hZ
  have hAB : ∀ q, A q → B0 ≤ q := fun q h => by
    rcases hA2 q h with z | z
    · rw [z]; exact hB0
    · exact Nat.le_trans hX.2 z
  obtain ⟨H, hH⟩ : ∃ z, z = s.heap := ⟨_, rfl⟩
  obtain ⟨locs, hlo⟩ : ∃ z : List Loc, z = [] := ⟨_, rfl⟩
  rw [← hH, ← hlo]
  obtain ⟨σ0, hs0⟩ : ∃ z : St, z = fun _ _ => 0 := ⟨_, rfl⟩
  replace hw : Wy vwCl G QM1 ad0 A s H locs σ0 := by rw [hH, hlo, hs0]; exact hw
  clear hH hlo
  refine x_aload_n X dX8_init_0 rfl (lv_at hl 0 rfl) ?_
  refine x_obj X hl.1 kX8_init_0 kX8_init_1 kX8_init_2 (x_fr hR.1.1 rfl) (x_fr hR.1.2 rfl) dX8_init_1 ?_
  refine x_aload_n X dX8_init_4 rfl (lv_at hl 0 rfl) ?_
  refine x_sipush X dX8_init_5 (by decide) ?_
  refine x_newi X hw hA QM1_low kX8_init_3 204 (by decide +kernel) rfl (x_fr hR.2.1 rfl) (x_fr hR.2.2 rfl) dX8_init_8 (fun ad1 H e1 hw => ?_)
  have hq1 : QM1.length = 1 := QM1_len
  rw [hq1]
  rw [hq1] at hw
  rw [← e1 0 (by rw [QM1_len]; decide)] at hl
  rw [← e1 0 (by rw [QM1_len]; decide)]
  replace he0 : ad1 0 = h0 := (e1 0 (by rw [QM1_len]; decide)).trans he0
  obtain ⟨σ1, hs1⟩ : ∃ z, z = sf σ0 1 (fun _ => 0) := ⟨_, rfl⟩
  replace hw : Wy vwCl G (QM1 ++ [.inl (false, 204)]) ad1 A s H locs σ1 := by rw [hs1]; exact hw
  replace hw : Wy vwCl G QM2 ad1 A s H locs σ1 := hw.eqL (by decide +kernel)
  show W p l e R s m args below meth c H locs 1 204 QQ (F0 m 10 ls [.ref (ad1 1), .ref (ad1 0)])
  refine x_putr X hw (o := 0) QM2_0 cX8 0 (by decide) (by decide) 0 kX8_init_4 kX8_init_5 tyX8 tyX8_ok nmX8 rfl hin2 rfl (fun _ => rfl) (fun _ => rfl) dX8_init_10 (fun H locs hw => ?_)
  replace hw : Wy vwCl G QM3 ad1 A s H locs σ1 := hw.eqL (by decide +kernel)
  refine x_aload_n X dX8_init_13 rfl (lv_at hl 0 rfl) ?_
  refine x_sipush X dX8_init_14 (by decide) ?_
  refine x_newi X hw hA QM3_low kX8_init_3 204 (by decide +kernel) rfl (x_fr hR.2.1 rfl) (x_fr hR.2.2 rfl) dX8_init_17 (fun ad2 H e2 hw => ?_)
  have hq2 : QM3.length = 2 := QM3_len
  rw [hq2]
  rw [hq2] at hw
  rw [← e2 0 (by rw [QM3_len]; decide)] at hl
  rw [← e2 0 (by rw [QM3_len]; decide)]
  replace he0 : ad2 0 = h0 := (e2 0 (by rw [QM3_len]; decide)).trans he0
  obtain ⟨σ2, hs2⟩ : ∃ z, z = sf σ1 2 (fun _ => 0) := ⟨_, rfl⟩
  replace hw : Wy vwCl G (QM3 ++ [.inl (false, 204)]) ad2 A s H locs σ2 := by rw [hs2]; exact hw
  replace hw : Wy vwCl G QM4 ad2 A s H locs σ2 := hw.eqL (by decide +kernel)
  show W p l e R s m args below meth c H locs 2 408 QQ (F0 m 19 ls [.ref (ad2 2), .ref (ad2 0)])
  refine x_putr X hw (o := 0) QM4_0 cX8 1 (by decide) (by decide) 1 kX8_init_4 kX8_init_6 tyX8 tyX8_ok nmX8 rfl hin2 rfl (fun _ => rfl) (fun _ => rfl) dX8_init_19 (fun H locs hw => ?_)
  replace hw : Wy vwCl G QM5 ad2 A s H locs σ2 := hw.eqL (by decide +kernel)
  refine x_aload_n X dX8_init_22 rfl (lv_at hl 0 rfl) ?_
  refine x_sipush X dX8_init_23 (by decide) ?_
  refine x_newi X hw hA QM5_low kX8_init_3 204 (by decide +kernel) rfl (x_fr hR.2.1 rfl) (x_fr hR.2.2 rfl) dX8_init_26 (fun ad3 H e3 hw => ?_)
  have hq3 : QM5.length = 3 := QM5_len
  rw [hq3]
  rw [hq3] at hw
  rw [← e3 0 (by rw [QM5_len]; decide)] at hl
  rw [← e3 0 (by rw [QM5_len]; decide)]
  replace he0 : ad3 0 = h0 := (e3 0 (by rw [QM5_len]; decide)).trans he0
  obtain ⟨σ3, hs3⟩ : ∃ z, z = sf σ2 3 (fun _ => 0) := ⟨_, rfl⟩
  replace hw : Wy vwCl G (QM5 ++ [.inl (false, 204)]) ad3 A s H locs σ3 := by rw [hs3]; exact hw
  replace hw : Wy vwCl G QM6 ad3 A s H locs σ3 := hw.eqL (by decide +kernel)
  show W p l e R s m args below meth c H locs 3 612 QQ (F0 m 28 ls [.ref (ad3 3), .ref (ad3 0)])
  refine x_putr X hw (o := 0) QM6_0 cX8 2 (by decide) (by decide) 2 kX8_init_4 kX8_init_7 tyX8 tyX8_ok nmX8 rfl hin2 rfl (fun _ => rfl) (fun _ => rfl) dX8_init_28 (fun H locs hw => ?_)
  replace hw : Wy vwCl G QM7 ad3 A s H locs σ3 := hw.eqL (by decide +kernel)
  refine x_aload_n X dX8_init_31 rfl (lv_at hl 0 rfl) ?_
  refine x_bipush X dX8_init_32 (by decide) ?_
  refine x_newi X hw hA QM7_low kX8_init_3 8 (by decide +kernel) rfl (x_fr hR.2.1 rfl) (x_fr hR.2.2 rfl) dX8_init_34 (fun ad4 H e4 hw => ?_)
  have hq4 : QM7.length = 4 := QM7_len
  rw [hq4]
  rw [hq4] at hw
  rw [← e4 0 (by rw [QM7_len]; decide)] at hl
  rw [← e4 0 (by rw [QM7_len]; decide)]
  replace he0 : ad4 0 = h0 := (e4 0 (by rw [QM7_len]; decide)).trans he0
  obtain ⟨σ4, hs4⟩ : ∃ z, z = sf σ3 4 (fun _ => 0) := ⟨_, rfl⟩
  replace hw : Wy vwCl G (QM7 ++ [.inl (false, 8)]) ad4 A s H locs σ4 := by rw [hs4]; exact hw
  replace hw : Wy vwCl G QM8 ad4 A s H locs σ4 := hw.eqL (by decide +kernel)
  show W p l e R s m args below meth c H locs 4 620 QQ (F0 m 36 ls [.ref (ad4 4), .ref (ad4 0)])
  refine x_putr X hw (o := 0) QM8_0 cX8 4 (by decide) (by decide) 3 kX8_init_4 kX8_init_8 tyX8 tyX8_ok nmX8 rfl hin2 rfl (fun _ => rfl) (fun _ => rfl) dX8_init_36 (fun H locs hw => ?_)
  replace hw : Wy vwCl G QM9 ad4 A s H locs σ4 := hw.eqL (by decide +kernel)
  refine x_aload_n X dX8_init_39 rfl (lv_at hl 0 rfl) ?_
  refine x_bipush X dX8_init_40 (by decide) ?_
  refine x_newi X hw hA QM9_low kX8_init_3 48 (by decide +kernel) rfl (x_fr hR.2.1 rfl) (x_fr hR.2.2 rfl) dX8_init_42 (fun ad5 H e5 hw => ?_)
  have hq5 : QM9.length = 5 := QM9_len
  rw [hq5]
  rw [hq5] at hw
  rw [← e5 0 (by rw [QM9_len]; decide)] at hl
  rw [← e5 0 (by rw [QM9_len]; decide)]
  replace he0 : ad5 0 = h0 := (e5 0 (by rw [QM9_len]; decide)).trans he0
  obtain ⟨σ5, hs5⟩ : ∃ z, z = sf σ4 5 (fun _ => 0) := ⟨_, rfl⟩
  replace hw : Wy vwCl G (QM9 ++ [.inl (false, 48)]) ad5 A s H locs σ5 := by rw [hs5]; exact hw
  replace hw : Wy vwCl G QM10 ad5 A s H locs σ5 := hw.eqL (by decide +kernel)
  show W p l e R s m args below meth c H locs 5 668 QQ (F0 m 44 ls [.ref (ad5 5), .ref (ad5 0)])
  refine x_putr X hw (o := 0) QM10_0 cX8 6 (by decide) (by decide) 4 kX8_init_4 kX8_init_9 tyX8 tyX8_ok nmX8 rfl hin2 rfl (fun _ => rfl) (fun _ => rfl) dX8_init_44 (fun H locs hw => ?_)
  replace hw : Wy vwCl G QM11 ad5 A s H locs σ5 := hw.eqL (by decide +kernel)
  refine x_aload_n X dX8_init_47 rfl (lv_at hl 0 rfl) ?_
  refine x_bipush X dX8_init_48 (by decide) ?_
  refine x_newi X hw hA QM11_low kX8_init_3 48 (by decide +kernel) rfl (x_fr hR.2.1 rfl) (x_fr hR.2.2 rfl) dX8_init_50 (fun ad6 H e6 hw => ?_)
  have hq6 : QM11.length = 6 := QM11_len
  rw [hq6]
  rw [hq6] at hw
  rw [← e6 0 (by rw [QM11_len]; decide)] at hl
  rw [← e6 0 (by rw [QM11_len]; decide)]
  replace he0 : ad6 0 = h0 := (e6 0 (by rw [QM11_len]; decide)).trans he0
  obtain ⟨σ6, hs6⟩ : ∃ z, z = sf σ5 6 (fun _ => 0) := ⟨_, rfl⟩
  replace hw : Wy vwCl G (QM11 ++ [.inl (false, 48)]) ad6 A s H locs σ6 := by rw [hs6]; exact hw
  replace hw : Wy vwCl G QM12 ad6 A s H locs σ6 := hw.eqL (by decide +kernel)
  show W p l e R s m args below meth c H locs 6 716 QQ (F0 m 52 ls [.ref (ad6 6), .ref (ad6 0)])
  refine x_putr X hw (o := 0) QM12_0 cX8 7 (by decide) (by decide) 5 kX8_init_4 kX8_init_10 tyX8 tyX8_ok nmX8 rfl hin2 rfl (fun _ => rfl) (fun _ => rfl) dX8_init_52 (fun H locs hw => ?_)
  replace hw : Wy vwCl G QM13 ad6 A s H locs σ6 := hw.eqL (by decide +kernel)
  refine x_aload_n X dX8_init_55 rfl (lv_at hl 0 rfl) ?_
  refine x_bipush X dX8_init_56 (by decide) ?_
  refine x_newi X hw hA QM13_low kX8_init_3 48 (by decide +kernel) rfl (x_fr hR.2.1 rfl) (x_fr hR.2.2 rfl) dX8_init_58 (fun ad7 H e7 hw => ?_)
  have hq7 : QM13.length = 7 := QM13_len
  rw [hq7]
  rw [hq7] at hw
  rw [← e7 0 (by rw [QM13_len]; decide)] at hl
  rw [← e7 0 (by rw [QM13_len]; decide)]
  replace he0 : ad7 0 = h0 := (e7 0 (by rw [QM13_len]; decide)).trans he0
  obtain ⟨σ7, hs7⟩ : ∃ z, z = sf σ6 7 (fun _ => 0) := ⟨_, rfl⟩
  replace hw : Wy vwCl G (QM13 ++ [.inl (false, 48)]) ad7 A s H locs σ7 := by rw [hs7]; exact hw
  replace hw : Wy vwCl G QM14 ad7 A s H locs σ7 := hw.eqL (by decide +kernel)
  show W p l e R s m args below meth c H locs 7 764 QQ (F0 m 60 ls [.ref (ad7 7), .ref (ad7 0)])
  refine x_putr X hw (o := 0) QM14_0 cX8 8 (by decide) (by decide) 6 kX8_init_4 kX8_init_11 tyX8 tyX8_ok nmX8 rfl hin2 rfl (fun _ => rfl) (fun _ => rfl) dX8_init_60 (fun H locs hw => ?_)
  replace hw : Wy vwCl G QM15 ad7 A s H locs σ7 := hw.eqL (by decide +kernel)
  refine x_aload_n X dX8_init_63 rfl (lv_at hl 0 rfl) ?_
  refine x_bipush X dX8_init_64 (by decide) ?_
  refine x_newi X hw hA QM15_low kX8_init_3 48 (by decide +kernel) rfl (x_fr hR.2.1 rfl) (x_fr hR.2.2 rfl) dX8_init_66 (fun ad8 H e8 hw => ?_)
  have hq8 : QM15.length = 8 := QM15_len
  rw [hq8]
  rw [hq8] at hw
  rw [← e8 0 (by rw [QM15_len]; decide)] at hl
  rw [← e8 0 (by rw [QM15_len]; decide)]
  replace he0 : ad8 0 = h0 := (e8 0 (by rw [QM15_len]; decide)).trans he0
  obtain ⟨σ8, hs8⟩ : ∃ z, z = sf σ7 8 (fun _ => 0) := ⟨_, rfl⟩
  replace hw : Wy vwCl G (QM15 ++ [.inl (false, 48)]) ad8 A s H locs σ8 := by rw [hs8]; exact hw
  replace hw : Wy vwCl G QM16 ad8 A s H locs σ8 := hw.eqL (by decide +kernel)
  show W p l e R s m args below meth c H locs 8 812 QQ (F0 m 68 ls [.ref (ad8 8), .ref (ad8 0)])
  refine x_putr X hw (o := 0) QM16_0 cX8 9 (by decide) (by decide) 7 kX8_init_4 kX8_init_12 tyX8 tyX8_ok nmX8 rfl hin2 rfl (fun _ => rfl) (fun _ => rfl) dX8_init_68 (fun H locs hw => ?_)
  replace hw : Wy vwCl G QM17 ad8 A s H locs σ8 := hw.eqL (by decide +kernel)
  refine x_aload_n X dX8_init_71 rfl (lv_at hl 0 rfl) ?_
  refine x_bipush X dX8_init_72 (by decide) ?_
  refine x_newj X hw hA QM17_low kX8_init_13 48 (by decide +kernel) rfl (x_fr hR.2.1 rfl) (x_fr hR.2.2 rfl) dX8_init_74 (fun ad9 H e9 hw => ?_)
  have hq9 : QM17.length = 9 := QM17_len
  rw [hq9]
  rw [hq9] at hw
  rw [← e9 0 (by rw [QM17_len]; decide)] at hl
  rw [← e9 0 (by rw [QM17_len]; decide)]
  replace he0 : ad9 0 = h0 := (e9 0 (by rw [QM17_len]; decide)).trans he0
  obtain ⟨σ9, hs9⟩ : ∃ z, z = sf σ8 9 (fun _ => 0) := ⟨_, rfl⟩
  replace hw : Wy vwCl G (QM17 ++ [.inl (true, 48)]) ad9 A s H locs σ9 := by rw [hs9]; exact hw
  replace hw : Wy vwCl G QM18 ad9 A s H locs σ9 := hw.eqL (by decide +kernel)
  show W p l e R s m args below meth c H locs 9 860 QQ (F0 m 76 ls [.ref (ad9 9), .ref (ad9 0)])
  refine x_putr X hw (o := 0) QM18_0 cX8 10 (by decide) (by decide) 8 kX8_init_4 kX8_init_14 tyX8 tyX8_ok nmX8 rfl hin2 rfl (fun _ => rfl) (fun _ => rfl) dX8_init_76 (fun H locs hw => ?_)
  replace hw : Wy vwCl G QM19 ad9 A s H locs σ9 := hw.eqL (by decide +kernel)
  refine x_aload_n X dX8_init_79 rfl (lv_at hl 0 rfl) ?_
  refine x_bipush X dX8_init_80 (by decide) ?_
  refine x_newi X hw hA QM19_low kX8_init_3 120 (by decide +kernel) rfl (x_fr hR.2.1 rfl) (x_fr hR.2.2 rfl) dX8_init_82 (fun ad10 H e10 hw => ?_)
  have hq10 : QM19.length = 10 := QM19_len
  rw [hq10]
  rw [hq10] at hw
  rw [← e10 0 (by rw [QM19_len]; decide)] at hl
  rw [← e10 0 (by rw [QM19_len]; decide)]
  replace he0 : ad10 0 = h0 := (e10 0 (by rw [QM19_len]; decide)).trans he0
  obtain ⟨σ10, hs10⟩ : ∃ z, z = sf σ9 10 (fun _ => 0) := ⟨_, rfl⟩
  replace hw : Wy vwCl G (QM19 ++ [.inl (false, 120)]) ad10 A s H locs σ10 := by rw [hs10]; exact hw
  replace hw : Wy vwCl G QM20 ad10 A s H locs σ10 := hw.eqL (by decide +kernel)
  show W p l e R s m args below meth c H locs 10 980 QQ (F0 m 84 ls [.ref (ad10 10), .ref (ad10 0)])
  refine x_putr X hw (o := 0) QM20_0 cX8 11 (by decide) (by decide) 9 kX8_init_4 kX8_init_15 tyX8 tyX8_ok nmX8 rfl hin2 rfl (fun _ => rfl) (fun _ => rfl) dX8_init_84 (fun H locs hw => ?_)
  replace hw : Wy vwCl G QM21 ad10 A s H locs σ10 := hw.eqL (by decide +kernel)
  refine x_aload_n X dX8_init_87 rfl (lv_at hl 0 rfl) ?_
  refine x_bipush X dX8_init_88 (by decide) ?_
  refine x_newi X hw hA QM21_low kX8_init_3 16 (by decide +kernel) rfl (x_fr hR.2.1 rfl) (x_fr hR.2.2 rfl) dX8_init_90 (fun ad11 H e11 hw => ?_)
  have hq11 : QM21.length = 11 := QM21_len
  rw [hq11]
  rw [hq11] at hw
  rw [← e11 0 (by rw [QM21_len]; decide)] at hl
  rw [← e11 0 (by rw [QM21_len]; decide)]
  replace he0 : ad11 0 = h0 := (e11 0 (by rw [QM21_len]; decide)).trans he0
  obtain ⟨σ11, hs11⟩ : ∃ z, z = sf σ10 11 (fun _ => 0) := ⟨_, rfl⟩
  replace hw : Wy vwCl G (QM21 ++ [.inl (false, 16)]) ad11 A s H locs σ11 := by rw [hs11]; exact hw
  replace hw : Wy vwCl G QM22 ad11 A s H locs σ11 := hw.eqL (by decide +kernel)
  show W p l e R s m args below meth c H locs 11 996 QQ (F0 m 92 ls [.ref (ad11 11), .ref (ad11 0)])
  refine x_putr X hw (o := 0) QM22_0 cX8 13 (by decide) (by decide) 10 kX8_init_4 kX8_init_16 tyX8 tyX8_ok nmX8 rfl hin2 rfl (fun _ => rfl) (fun _ => rfl) dX8_init_92 (fun H locs hw => ?_)
  replace hw : Wy vwCl G QM23 ad11 A s H locs σ11 := hw.eqL (by decide +kernel)
  refine x_aload_n X dX8_init_95 rfl (lv_at hl 0 rfl) ?_
  refine x_bipush X dX8_init_96 (by decide) ?_
  refine x_newi X hw hA QM23_low kX8_init_3 16 (by decide +kernel) rfl (x_fr hR.2.1 rfl) (x_fr hR.2.2 rfl) dX8_init_98 (fun ad12 H e12 hw => ?_)
  have hq12 : QM23.length = 12 := QM23_len
  rw [hq12]
  rw [hq12] at hw
  rw [← e12 0 (by rw [QM23_len]; decide)] at hl
  rw [← e12 0 (by rw [QM23_len]; decide)]
  replace he0 : ad12 0 = h0 := (e12 0 (by rw [QM23_len]; decide)).trans he0
  obtain ⟨σ12, hs12⟩ : ∃ z, z = sf σ11 12 (fun _ => 0) := ⟨_, rfl⟩
  replace hw : Wy vwCl G (QM23 ++ [.inl (false, 16)]) ad12 A s H locs σ12 := by rw [hs12]; exact hw
  replace hw : Wy vwCl G QM24 ad12 A s H locs σ12 := hw.eqL (by decide +kernel)
  show W p l e R s m args below meth c H locs 12 1012 QQ (F0 m 100 ls [.ref (ad12 12), .ref (ad12 0)])
  refine x_putr X hw (o := 0) QM24_0 cX8 14 (by decide) (by decide) 11 kX8_init_4 kX8_init_17 tyX8 tyX8_ok nmX8 rfl hin2 rfl (fun _ => rfl) (fun _ => rfl) dX8_init_100 (fun H locs hw => ?_)
  replace hw : Wy vwCl G QM25 ad12 A s H locs σ12 := hw.eqL (by decide +kernel)
  refine x_aload_n X dX8_init_103 rfl (lv_at hl 0 rfl) ?_
  refine x_sipush X dX8_init_104 (by decide) ?_
  refine x_newi X hw hA QM25_low kX8_init_3 800 (by decide +kernel) rfl (x_fr hR.2.1 rfl) (x_fr hR.2.2 rfl) dX8_init_107 (fun ad13 H e13 hw => ?_)
  have hq13 : QM25.length = 13 := QM25_len
  rw [hq13]
  rw [hq13] at hw
  rw [← e13 0 (by rw [QM25_len]; decide)] at hl
  rw [← e13 0 (by rw [QM25_len]; decide)]
  replace he0 : ad13 0 = h0 := (e13 0 (by rw [QM25_len]; decide)).trans he0
  obtain ⟨σ13, hs13⟩ : ∃ z, z = sf σ12 13 (fun _ => 0) := ⟨_, rfl⟩
  replace hw : Wy vwCl G (QM25 ++ [.inl (false, 800)]) ad13 A s H locs σ13 := by rw [hs13]; exact hw
  replace hw : Wy vwCl G QM26 ad13 A s H locs σ13 := hw.eqL (by decide +kernel)
  show W p l e R s m args below meth c H locs 13 1812 QQ (F0 m 109 ls [.ref (ad13 13), .ref (ad13 0)])
  refine x_putr X hw (o := 0) QM26_0 cX8 16 (by decide) (by decide) 12 kX8_init_4 kX8_init_18 tyX8 tyX8_ok nmX8 rfl hin2 rfl (fun _ => rfl) (fun _ => rfl) dX8_init_109 (fun H locs hw => ?_)
  replace hw : Wy vwCl G QM27 ad13 A s H locs σ13 := hw.eqL (by decide +kernel)
  refine x_aload_n X dX8_init_112 rfl (lv_at hl 0 rfl) ?_
  refine x_sipush X dX8_init_113 (by decide) ?_
  refine x_newi X hw hA QM27_low kX8_init_3 800 (by decide +kernel) rfl (x_fr hR.2.1 rfl) (x_fr hR.2.2 rfl) dX8_init_116 (fun ad14 H e14 hw => ?_)
  have hq14 : QM27.length = 14 := QM27_len
  rw [hq14]
  rw [hq14] at hw
  rw [← e14 0 (by rw [QM27_len]; decide)] at hl
  rw [← e14 0 (by rw [QM27_len]; decide)]
  replace he0 : ad14 0 = h0 := (e14 0 (by rw [QM27_len]; decide)).trans he0
  obtain ⟨σ14, hs14⟩ : ∃ z, z = sf σ13 14 (fun _ => 0) := ⟨_, rfl⟩
  replace hw : Wy vwCl G (QM27 ++ [.inl (false, 800)]) ad14 A s H locs σ14 := by rw [hs14]; exact hw
  replace hw : Wy vwCl G QM28 ad14 A s H locs σ14 := hw.eqL (by decide +kernel)
  show W p l e R s m args below meth c H locs 14 2612 QQ (F0 m 118 ls [.ref (ad14 14), .ref (ad14 0)])
  refine x_putr X hw (o := 0) QM28_0 cX8 17 (by decide) (by decide) 13 kX8_init_4 kX8_init_19 tyX8 tyX8_ok nmX8 rfl hin2 rfl (fun _ => rfl) (fun _ => rfl) dX8_init_118 (fun H locs hw => ?_)
  replace hw : Wy vwCl G QM29 ad14 A s H locs σ14 := hw.eqL (by decide +kernel)
  refine x_aload_n X dX8_init_121 rfl (lv_at hl 0 rfl) ?_
  refine x_sipush X dX8_init_122 (by decide) ?_
  refine x_newi X hw hA QM29_low kX8_init_3 800 (by decide +kernel) rfl (x_fr hR.2.1 rfl) (x_fr hR.2.2 rfl) dX8_init_125 (fun ad15 H e15 hw => ?_)
  have hq15 : QM29.length = 15 := QM29_len
  rw [hq15]
  rw [hq15] at hw
  rw [← e15 0 (by rw [QM29_len]; decide)] at hl
  rw [← e15 0 (by rw [QM29_len]; decide)]
  replace he0 : ad15 0 = h0 := (e15 0 (by rw [QM29_len]; decide)).trans he0
  obtain ⟨σ15, hs15⟩ : ∃ z, z = sf σ14 15 (fun _ => 0) := ⟨_, rfl⟩
  replace hw : Wy vwCl G (QM29 ++ [.inl (false, 800)]) ad15 A s H locs σ15 := by rw [hs15]; exact hw
  replace hw : Wy vwCl G QM30 ad15 A s H locs σ15 := hw.eqL (by decide +kernel)
  show W p l e R s m args below meth c H locs 15 3412 QQ (F0 m 127 ls [.ref (ad15 15), .ref (ad15 0)])
  refine x_putr X hw (o := 0) QM30_0 cX8 18 (by decide) (by decide) 14 kX8_init_4 kX8_init_20 tyX8 tyX8_ok nmX8 rfl hin2 rfl (fun _ => rfl) (fun _ => rfl) dX8_init_127 (fun H locs hw => ?_)
  replace hw : Wy vwCl G QM31 ad15 A s H locs σ15 := hw.eqL (by decide +kernel)
  refine x_aload_n X dX8_init_130 rfl (lv_at hl 0 rfl) ?_
  refine x_sipush X dX8_init_131 (by decide) ?_
  refine x_newi X hw hA QM31_low kX8_init_3 800 (by decide +kernel) rfl (x_fr hR.2.1 rfl) (x_fr hR.2.2 rfl) dX8_init_134 (fun ad16 H e16 hw => ?_)
  have hq16 : QM31.length = 16 := QM31_len
  rw [hq16]
  rw [hq16] at hw
  rw [← e16 0 (by rw [QM31_len]; decide)] at hl
  rw [← e16 0 (by rw [QM31_len]; decide)]
  replace he0 : ad16 0 = h0 := (e16 0 (by rw [QM31_len]; decide)).trans he0
  obtain ⟨σ16, hs16⟩ : ∃ z, z = sf σ15 16 (fun _ => 0) := ⟨_, rfl⟩
  replace hw : Wy vwCl G (QM31 ++ [.inl (false, 800)]) ad16 A s H locs σ16 := by rw [hs16]; exact hw
  replace hw : Wy vwCl G QM32 ad16 A s H locs σ16 := hw.eqL (by decide +kernel)
  show W p l e R s m args below meth c H locs 16 4212 QQ (F0 m 136 ls [.ref (ad16 16), .ref (ad16 0)])
  refine x_putr X hw (o := 0) QM32_0 cX8 19 (by decide) (by decide) 15 kX8_init_4 kX8_init_21 tyX8 tyX8_ok nmX8 rfl hin2 rfl (fun _ => rfl) (fun _ => rfl) dX8_init_136 (fun H locs hw => ?_)
  replace hw : Wy vwCl G QM33 ad16 A s H locs σ16 := hw.eqL (by decide +kernel)
  refine x_aload_n X dX8_init_139 rfl (lv_at hl 0 rfl) ?_
  refine x_sipush X dX8_init_140 (by decide) ?_
  refine x_newi X hw hA QM33_low kX8_init_3 800 (by decide +kernel) rfl (x_fr hR.2.1 rfl) (x_fr hR.2.2 rfl) dX8_init_143 (fun ad17 H e17 hw => ?_)
  have hq17 : QM33.length = 17 := QM33_len
  rw [hq17]
  rw [hq17] at hw
  rw [← e17 0 (by rw [QM33_len]; decide)] at hl
  rw [← e17 0 (by rw [QM33_len]; decide)]
  replace he0 : ad17 0 = h0 := (e17 0 (by rw [QM33_len]; decide)).trans he0
  obtain ⟨σ17, hs17⟩ : ∃ z, z = sf σ16 17 (fun _ => 0) := ⟨_, rfl⟩
  replace hw : Wy vwCl G (QM33 ++ [.inl (false, 800)]) ad17 A s H locs σ17 := by rw [hs17]; exact hw
  replace hw : Wy vwCl G QM34 ad17 A s H locs σ17 := hw.eqL (by decide +kernel)
  show W p l e R s m args below meth c H locs 17 5012 QQ (F0 m 145 ls [.ref (ad17 17), .ref (ad17 0)])
  refine x_putr X hw (o := 0) QM34_0 cX8 20 (by decide) (by decide) 16 kX8_init_4 kX8_init_22 tyX8 tyX8_ok nmX8 rfl hin2 rfl (fun _ => rfl) (fun _ => rfl) dX8_init_145 (fun H locs hw => ?_)
  replace hw : Wy vwCl G QM35 ad17 A s H locs σ17 := hw.eqL (by decide +kernel)
  refine x_aload_n X dX8_init_148 rfl (lv_at hl 0 rfl) ?_
  refine x_sipush X dX8_init_149 (by decide) ?_
  refine x_newi X hw hA QM35_low kX8_init_3 800 (by decide +kernel) rfl (x_fr hR.2.1 rfl) (x_fr hR.2.2 rfl) dX8_init_152 (fun ad18 H e18 hw => ?_)
  have hq18 : QM35.length = 18 := QM35_len
  rw [hq18]
  rw [hq18] at hw
  rw [← e18 0 (by rw [QM35_len]; decide)] at hl
  rw [← e18 0 (by rw [QM35_len]; decide)]
  replace he0 : ad18 0 = h0 := (e18 0 (by rw [QM35_len]; decide)).trans he0
  obtain ⟨σ18, hs18⟩ : ∃ z, z = sf σ17 18 (fun _ => 0) := ⟨_, rfl⟩
  replace hw : Wy vwCl G (QM35 ++ [.inl (false, 800)]) ad18 A s H locs σ18 := by rw [hs18]; exact hw
  replace hw : Wy vwCl G QM36 ad18 A s H locs σ18 := hw.eqL (by decide +kernel)
  show W p l e R s m args below meth c H locs 18 5812 QQ (F0 m 154 ls [.ref (ad18 18), .ref (ad18 0)])
  refine x_putr X hw (o := 0) QM36_0 cX8 22 (by decide) (by decide) 17 kX8_init_4 kX8_init_23 tyX8 tyX8_ok nmX8 rfl hin2 rfl (fun _ => rfl) (fun _ => rfl) dX8_init_154 (fun H locs hw => ?_)
  replace hw : Wy vwCl G QM37 ad18 A s H locs σ18 := hw.eqL (by decide +kernel)
  refine x_aload_n X dX8_init_157 rfl (lv_at hl 0 rfl) ?_
  refine x_sipush X dX8_init_158 (by decide) ?_
  refine x_newi X hw hA QM37_low kX8_init_3 800 (by decide +kernel) rfl (x_fr hR.2.1 rfl) (x_fr hR.2.2 rfl) dX8_init_161 (fun ad19 H e19 hw => ?_)
  have hq19 : QM37.length = 19 := QM37_len
  rw [hq19]
  rw [hq19] at hw
  rw [← e19 0 (by rw [QM37_len]; decide)] at hl
  rw [← e19 0 (by rw [QM37_len]; decide)]
  replace he0 : ad19 0 = h0 := (e19 0 (by rw [QM37_len]; decide)).trans he0
  obtain ⟨σ19, hs19⟩ : ∃ z, z = sf σ18 19 (fun _ => 0) := ⟨_, rfl⟩
  replace hw : Wy vwCl G (QM37 ++ [.inl (false, 800)]) ad19 A s H locs σ19 := by rw [hs19]; exact hw
  replace hw : Wy vwCl G QM38 ad19 A s H locs σ19 := hw.eqL (by decide +kernel)
  show W p l e R s m args below meth c H locs 19 6612 QQ (F0 m 163 ls [.ref (ad19 19), .ref (ad19 0)])
  refine x_putr X hw (o := 0) QM38_0 cX8 23 (by decide) (by decide) 18 kX8_init_4 kX8_init_24 tyX8 tyX8_ok nmX8 rfl hin2 rfl (fun _ => rfl) (fun _ => rfl) dX8_init_163 (fun H locs hw => ?_)
  replace hw : Wy vwCl G QM39 ad19 A s H locs σ19 := hw.eqL (by decide +kernel)
  refine x_aload_n X dX8_init_166 rfl (lv_at hl 0 rfl) ?_
  refine x_sipush X dX8_init_167 (by decide) ?_
  refine x_newi X hw hA QM39_low kX8_init_3 800 (by decide +kernel) rfl (x_fr hR.2.1 rfl) (x_fr hR.2.2 rfl) dX8_init_170 (fun ad20 H e20 hw => ?_)
  have hq20 : QM39.length = 20 := QM39_len
  rw [hq20]
  rw [hq20] at hw
  rw [← e20 0 (by rw [QM39_len]; decide)] at hl
  rw [← e20 0 (by rw [QM39_len]; decide)]
  replace he0 : ad20 0 = h0 := (e20 0 (by rw [QM39_len]; decide)).trans he0
  obtain ⟨σ20, hs20⟩ : ∃ z, z = sf σ19 20 (fun _ => 0) := ⟨_, rfl⟩
  replace hw : Wy vwCl G (QM39 ++ [.inl (false, 800)]) ad20 A s H locs σ20 := by rw [hs20]; exact hw
  replace hw : Wy vwCl G QM40 ad20 A s H locs σ20 := hw.eqL (by decide +kernel)
  show W p l e R s m args below meth c H locs 20 7412 QQ (F0 m 172 ls [.ref (ad20 20), .ref (ad20 0)])
  refine x_putr X hw (o := 0) QM40_0 cX8 24 (by decide) (by decide) 19 kX8_init_4 kX8_init_25 tyX8 tyX8_ok nmX8 rfl hin2 rfl (fun _ => rfl) (fun _ => rfl) dX8_init_172 (fun H locs hw => ?_)
  replace hw : Wy vwCl G QM41 ad20 A s H locs σ20 := hw.eqL (by decide +kernel)
  refine x_aload_n X dX8_init_175 rfl (lv_at hl 0 rfl) ?_
  refine x_bipush X dX8_init_176 (by decide) ?_
  refine x_newi X hw hA QM41_low kX8_init_3 48 (by decide +kernel) rfl (x_fr hR.2.1 rfl) (x_fr hR.2.2 rfl) dX8_init_178 (fun ad21 H e21 hw => ?_)
  have hq21 : QM41.length = 21 := QM41_len
  rw [hq21]
  rw [hq21] at hw
  rw [← e21 0 (by rw [QM41_len]; decide)] at hl
  rw [← e21 0 (by rw [QM41_len]; decide)]
  replace he0 : ad21 0 = h0 := (e21 0 (by rw [QM41_len]; decide)).trans he0
  obtain ⟨σ21, hs21⟩ : ∃ z, z = sf σ20 21 (fun _ => 0) := ⟨_, rfl⟩
  replace hw : Wy vwCl G (QM41 ++ [.inl (false, 48)]) ad21 A s H locs σ21 := by rw [hs21]; exact hw
  replace hw : Wy vwCl G QM42 ad21 A s H locs σ21 := hw.eqL (by decide +kernel)
  show W p l e R s m args below meth c H locs 21 7460 QQ (F0 m 180 ls [.ref (ad21 21), .ref (ad21 0)])
  refine x_putr X hw (o := 0) QM42_0 cX8 25 (by decide) (by decide) 20 kX8_init_4 kX8_init_26 tyX8 tyX8_ok nmX8 rfl hin2 rfl (fun _ => rfl) (fun _ => rfl) dX8_init_180 (fun H locs hw => ?_)
  replace hw : Wy vwCl G QM43 ad21 A s H locs σ21 := hw.eqL (by decide +kernel)
  refine x_aload_n X dX8_init_183 rfl (lv_at hl 0 rfl) ?_
  refine x_sipush X dX8_init_184 (by decide) ?_
  refine x_newi X hw hA QM43_low kX8_init_3 8192 (by decide +kernel) rfl (x_fr hR.2.1 rfl) (x_fr hR.2.2 rfl) dX8_init_187 (fun ad22 H e22 hw => ?_)
  have hq22 : QM43.length = 22 := QM43_len
  rw [hq22]
  rw [hq22] at hw
  rw [← e22 0 (by rw [QM43_len]; decide)] at hl
  rw [← e22 0 (by rw [QM43_len]; decide)]
  replace he0 : ad22 0 = h0 := (e22 0 (by rw [QM43_len]; decide)).trans he0
  obtain ⟨σ22, hs22⟩ : ∃ z, z = sf σ21 22 (fun _ => 0) := ⟨_, rfl⟩
  replace hw : Wy vwCl G (QM43 ++ [.inl (false, 8192)]) ad22 A s H locs σ22 := by rw [hs22]; exact hw
  replace hw : Wy vwCl G QM44 ad22 A s H locs σ22 := hw.eqL (by decide +kernel)
  show W p l e R s m args below meth c H locs 22 15652 QQ (F0 m 189 ls [.ref (ad22 22), .ref (ad22 0)])
  refine x_putr X hw (o := 0) QM44_0 cX8 27 (by decide) (by decide) 21 kX8_init_4 kX8_init_27 tyX8 tyX8_ok nmX8 rfl hin2 rfl (fun _ => rfl) (fun _ => rfl) dX8_init_189 (fun H locs hw => ?_)
  replace hw : Wy vwCl G QM45 ad22 A s H locs σ22 := hw.eqL (by decide +kernel)
  refine x_aload_n X dX8_init_192 rfl (lv_at hl 0 rfl) ?_
  refine x_sipush X dX8_init_193 (by decide) ?_
  refine x_newj X hw hA QM45_low kX8_init_13 8192 (by decide +kernel) rfl (x_fr hR.2.1 rfl) (x_fr hR.2.2 rfl) dX8_init_196 (fun ad23 H e23 hw => ?_)
  have hq23 : QM45.length = 23 := QM45_len
  rw [hq23]
  rw [hq23] at hw
  rw [← e23 0 (by rw [QM45_len]; decide)] at hl
  rw [← e23 0 (by rw [QM45_len]; decide)]
  replace he0 : ad23 0 = h0 := (e23 0 (by rw [QM45_len]; decide)).trans he0
  obtain ⟨σ23, hs23⟩ : ∃ z, z = sf σ22 23 (fun _ => 0) := ⟨_, rfl⟩
  replace hw : Wy vwCl G (QM45 ++ [.inl (true, 8192)]) ad23 A s H locs σ23 := by rw [hs23]; exact hw
  replace hw : Wy vwCl G QM46 ad23 A s H locs σ23 := hw.eqL (by decide +kernel)
  show W p l e R s m args below meth c H locs 23 23844 QQ (F0 m 198 ls [.ref (ad23 23), .ref (ad23 0)])
  refine x_putr X hw (o := 0) QM46_0 cX8 28 (by decide) (by decide) 22 kX8_init_4 kX8_init_28 tyX8 tyX8_ok nmX8 rfl hin2 rfl (fun _ => rfl) (fun _ => rfl) dX8_init_198 (fun H locs hw => ?_)
  replace hw : Wy vwCl G QM47 ad23 A s H locs σ23 := hw.eqL (by decide +kernel)
  refine x_aload_n X dX8_init_201 rfl (lv_at hl 0 rfl) ?_
  refine x_iconst X dX8_init_202 ?_
  refine x_newi X hw hA QM47_low kX8_init_3 4 (by decide +kernel) rfl (x_fr hR.2.1 rfl) (x_fr hR.2.2 rfl) dX8_init_203 (fun ad24 H e24 hw => ?_)
  have hq24 : QM47.length = 24 := QM47_len
  rw [hq24]
  rw [hq24] at hw
  rw [← e24 0 (by rw [QM47_len]; decide)] at hl
  rw [← e24 0 (by rw [QM47_len]; decide)]
  replace he0 : ad24 0 = h0 := (e24 0 (by rw [QM47_len]; decide)).trans he0
  obtain ⟨σ24, hs24⟩ : ∃ z, z = sf σ23 24 (fun _ => 0) := ⟨_, rfl⟩
  replace hw : Wy vwCl G (QM47 ++ [.inl (false, 4)]) ad24 A s H locs σ24 := by rw [hs24]; exact hw
  replace hw : Wy vwCl G QM48 ad24 A s H locs σ24 := hw.eqL (by decide +kernel)
  show W p l e R s m args below meth c H locs 24 23848 QQ (F0 m 205 ls [.ref (ad24 24), .ref (ad24 0)])
  refine x_dup X dX8_init_205 rfl ?_
  refine x_iconst X dX8_init_206 ?_
  refine x_iconst X dX8_init_207 ?_
  refine x_iast X hw (k0 := 24) QM48_s25 (j := 0) (by decide +kernel) rfl (by decide) dX8_init_208 (fun H locs σ25 hs25 hw => ?_)
  refine x_dup X dX8_init_209 rfl ?_
  refine x_iconst X dX8_init_210 ?_
  refine x_iconst X dX8_init_211 ?_
  refine x_iast X hw (k0 := 24) QM48_s26 (j := 1) (by decide +kernel) rfl (by decide) dX8_init_212 (fun H locs σ26 hs26 hw => ?_)
  refine x_dup X dX8_init_213 rfl ?_
  refine x_iconst X dX8_init_214 ?_
  refine x_iconst X dX8_init_215 ?_
  refine x_iast X hw (k0 := 24) QM48_s27 (j := 2) (by decide +kernel) rfl (by decide) dX8_init_216 (fun H locs σ27 hs27 hw => ?_)
  refine x_dup X dX8_init_217 rfl ?_
  refine x_iconst X dX8_init_218 ?_
  refine x_iconst X dX8_init_219 ?_
  refine x_iast X hw (k0 := 24) QM48_s28 (j := 3) (by decide +kernel) rfl (by decide) dX8_init_220 (fun H locs σ28 hs28 hw => ?_)
  refine x_putr X hw (o := 0) QM48_0 cX8 29 (by decide) (by decide) 23 kX8_init_4 kX8_init_29 tyX8 tyX8_ok nmX8 rfl hin2 rfl (fun _ => rfl) (fun _ => rfl) dX8_init_221 (fun H locs hw => ?_)
  replace hw : Wy vwCl G QM49 ad24 A s H locs σ28 := hw.eqL (by decide +kernel)
  refine x_aload_n X dX8_init_224 rfl (lv_at hl 0 rfl) ?_
  refine x_iconst X dX8_init_225 ?_
  refine x_newi X hw hA QM49_low kX8_init_3 4 (by decide +kernel) rfl (x_fr hR.2.1 rfl) (x_fr hR.2.2 rfl) dX8_init_226 (fun ad29 H e29 hw => ?_)
  have hq29 : QM49.length = 25 := QM49_len
  rw [hq29]
  rw [hq29] at hw
  rw [← e29 0 (by rw [QM49_len]; decide)] at hl
  rw [← e29 0 (by rw [QM49_len]; decide)]
  replace he0 : ad29 0 = h0 := (e29 0 (by rw [QM49_len]; decide)).trans he0
  obtain ⟨σ29, hs29⟩ : ∃ z, z = sf σ28 25 (fun _ => 0) := ⟨_, rfl⟩
  replace hw : Wy vwCl G (QM49 ++ [.inl (false, 4)]) ad29 A s H locs σ29 := by rw [hs29]; exact hw
  replace hw : Wy vwCl G QM50 ad29 A s H locs σ29 := hw.eqL (by decide +kernel)
  show W p l e R s m args below meth c H locs 25 23852 QQ (F0 m 228 ls [.ref (ad29 25), .ref (ad29 0)])
  refine x_putr X hw (o := 0) QM50_0 cX8 30 (by decide) (by decide) 24 kX8_init_4 kX8_init_30 tyX8 tyX8_ok nmX8 rfl hin2 rfl (fun _ => rfl) (fun _ => rfl) dX8_init_228 (fun H locs hw => ?_)
  replace hw : Wy vwCl G QM51 ad29 A s H locs σ29 := hw.eqL (by decide +kernel)
  refine x_aload_n X dX8_init_231 rfl (lv_at hl 0 rfl) ?_
  refine x_sipush X dX8_init_232 (by decide) ?_
  refine x_newj X hw hA QM51_low kX8_init_13 240 (by decide +kernel) rfl (x_fr hR.2.1 rfl) (x_fr hR.2.2 rfl) dX8_init_235 (fun ad30 H e30 hw => ?_)
  have hq30 : QM51.length = 26 := QM51_len
  rw [hq30]
  rw [hq30] at hw
  rw [← e30 0 (by rw [QM51_len]; decide)] at hl
  rw [← e30 0 (by rw [QM51_len]; decide)]
  replace he0 : ad30 0 = h0 := (e30 0 (by rw [QM51_len]; decide)).trans he0
  obtain ⟨σ30, hs30⟩ : ∃ z, z = sf σ29 26 (fun _ => 0) := ⟨_, rfl⟩
  replace hw : Wy vwCl G (QM51 ++ [.inl (true, 240)]) ad30 A s H locs σ30 := by rw [hs30]; exact hw
  replace hw : Wy vwCl G QM52 ad30 A s H locs σ30 := hw.eqL (by decide +kernel)
  show W p l e R s m args below meth c H locs 26 24092 QQ (F0 m 237 ls [.ref (ad30 26), .ref (ad30 0)])
  refine x_putr X hw (o := 0) QM52_0 cX8 31 (by decide) (by decide) 25 kX8_init_4 kX8_init_31 tyX8 tyX8_ok nmX8 rfl hin2 rfl (fun _ => rfl) (fun _ => rfl) dX8_init_237 (fun H locs hw => ?_)
  replace hw : Wy vwCl G QM53 ad30 A s H locs σ30 := hw.eqL (by decide +kernel)
  refine x_aload_n X dX8_init_240 rfl (lv_at hl 0 rfl) ?_
  refine x_sipush X dX8_init_241 (by decide) ?_
  refine x_newi X hw hA QM53_low kX8_init_3 12800 (by decide +kernel) rfl (x_fr hR.2.1 rfl) (x_fr hR.2.2 rfl) dX8_init_244 (fun ad31 H e31 hw => ?_)
  have hq31 : QM53.length = 27 := QM53_len
  rw [hq31]
  rw [hq31] at hw
  rw [← e31 0 (by rw [QM53_len]; decide)] at hl
  rw [← e31 0 (by rw [QM53_len]; decide)]
  replace he0 : ad31 0 = h0 := (e31 0 (by rw [QM53_len]; decide)).trans he0
  obtain ⟨σ31, hs31⟩ : ∃ z, z = sf σ30 27 (fun _ => 0) := ⟨_, rfl⟩
  replace hw : Wy vwCl G (QM53 ++ [.inl (false, 12800)]) ad31 A s H locs σ31 := by rw [hs31]; exact hw
  replace hw : Wy vwCl G QM54 ad31 A s H locs σ31 := hw.eqL (by decide +kernel)
  show W p l e R s m args below meth c H locs 27 36892 QQ (F0 m 246 ls [.ref (ad31 27), .ref (ad31 0)])
  refine x_putr X hw (o := 0) QM54_0 cX8 32 (by decide) (by decide) 26 kX8_init_4 kX8_init_32 tyX8 tyX8_ok nmX8 rfl hin2 rfl (fun _ => rfl) (fun _ => rfl) dX8_init_246 (fun H locs hw => ?_)
  replace hw : Wy vwCl G QM55 ad31 A s H locs σ31 := hw.eqL (by decide +kernel)
  replace hw : Wy vwCl G LM ad31 A s H locs σ31 := hw.eqL LM_is
  have z1 : σ31 1 = fun _ => 0 := by rw [hs31, sf_row _ (by decide), hs30, sf_row _ (by decide), hs29, sf_row _ (by decide), hs28, ss_row _ (by decide), hs27, ss_row _ (by decide), hs26, ss_row _ (by decide), hs25, ss_row _ (by decide), hs24, sf_row _ (by decide), hs23, sf_row _ (by decide), hs22, sf_row _ (by decide), hs21, sf_row _ (by decide), hs20, sf_row _ (by decide), hs19, sf_row _ (by decide), hs18, sf_row _ (by decide), hs17, sf_row _ (by decide), hs16, sf_row _ (by decide), hs15, sf_row _ (by decide), hs14, sf_row _ (by decide), hs13, sf_row _ (by decide), hs12, sf_row _ (by decide), hs11, sf_row _ (by decide), hs10, sf_row _ (by decide), hs9, sf_row _ (by decide), hs8, sf_row _ (by decide), hs7, sf_row _ (by decide), hs6, sf_row _ (by decide), hs5, sf_row _ (by decide), hs4, sf_row _ (by decide), hs3, sf_row _ (by decide), hs2, sf_row _ (by decide), hs1, sf_at]
  have z4 : σ31 4 = fun _ => 0 := by rw [hs31, sf_row _ (by decide), hs30, sf_row _ (by decide), hs29, sf_row _ (by decide), hs28, ss_row _ (by decide), hs27, ss_row _ (by decide), hs26, ss_row _ (by decide), hs25, ss_row _ (by decide), hs24, sf_row _ (by decide), hs23, sf_row _ (by decide), hs22, sf_row _ (by decide), hs21, sf_row _ (by decide), hs20, sf_row _ (by decide), hs19, sf_row _ (by decide), hs18, sf_row _ (by decide), hs17, sf_row _ (by decide), hs16, sf_row _ (by decide), hs15, sf_row _ (by decide), hs14, sf_row _ (by decide), hs13, sf_row _ (by decide), hs12, sf_row _ (by decide), hs11, sf_row _ (by decide), hs10, sf_row _ (by decide), hs9, sf_row _ (by decide), hs8, sf_row _ (by decide), hs7, sf_row _ (by decide), hs6, sf_row _ (by decide), hs5, sf_row _ (by decide), hs4, sf_at]
  have z0 : σ31 0 = fun _ => 0 := by rw [hs31, sf_row _ (by decide), hs30, sf_row _ (by decide), hs29, sf_row _ (by decide), hs28, ss_row _ (by decide), hs27, ss_row _ (by decide), hs26, ss_row _ (by decide), hs25, ss_row _ (by decide), hs24, sf_row _ (by decide), hs23, sf_row _ (by decide), hs22, sf_row _ (by decide), hs21, sf_row _ (by decide), hs20, sf_row _ (by decide), hs19, sf_row _ (by decide), hs18, sf_row _ (by decide), hs17, sf_row _ (by decide), hs16, sf_row _ (by decide), hs15, sf_row _ (by decide), hs14, sf_row _ (by decide), hs13, sf_row _ (by decide), hs12, sf_row _ (by decide), hs11, sf_row _ (by decide), hs10, sf_row _ (by decide), hs9, sf_row _ (by decide), hs8, sf_row _ (by decide), hs7, sf_row _ (by decide), hs6, sf_row _ (by decide), hs5, sf_row _ (by decide), hs4, sf_row _ (by decide), hs3, sf_row _ (by decide), hs2, sf_row _ (by decide), hs1, sf_row _ (by decide), hs0]
  have z24 : ∀ i, 0 ≤ i → i < 4 → σ31 24 i = -1 := fun i a b => by
    rw [hs31, sf_row _ (by decide), hs30, sf_row _ (by decide), hs29, sf_row _ (by decide), hs28, hs27, hs26, hs25, hs24]
    have hc : i = 0 ∨ i = 1 ∨ i = 2 ∨ i = 3 := (by omega)
    rcases hc with rfl | rfl | rfl | rfl <;> rfl
  refine x_aload_n X dX8_init_249 rfl (lv_at hl 0 rfl) ?_
  refine x_getr X hw (o := 0) lm0 cX8 0 (by decide) (k0 := 0) rfl kX8_init_4 kX8_init_5 dX8_init_250 ?_
  refine x_iconst X dX8_init_253 ?_
  refine x_iconst X dX8_init_254 ?_
  refine x_iast X hw (k0 := 1) lm1 (j := 0) (by decide +kernel) rfl (by decide) dX8_init_255 (fun H locs u0 hu0 hw => ?_)
  refine x_iconst X dX8_init_256 ?_
  refine x_istore_n X [(1, iV (0 : Nat)), (0, .ref (ad31 0))] dX8_init_257 rfl hl (by decide) rfl (fun ls hl => ?_)
  rw [hu0] at hw
  -- lists() and the end
  have last : ∀ (H : Heap) (locs : List Loc) (ls : Array Slot), Wy vwCl G LM ad31 A s H locs (endM σ31) → (∃ v1 v2, lv_has ls 4 [(2, v1), (1, v2), (0, .ref (ad31 0))]) → W p l e R s m args below meth c H locs 28 36898 QQ (F0 m 415 ls []) := by
    intro H locs ls hw hlx
    obtain ⟨v1, v2, hl⟩ := hlx
    refine x_aload_n X dX8_init_415 rfl (lv_at hl 2 rfl) ?_
    refine x_cvv X hw [] [] (c_M_lists l G ad31 hw.2.1.1 (endM σ31) (Q := fun t => GM t (stS (endM σ31 1)) ∧ frm gmK gmJ (endM σ31) t) (Mlists_ok (sN_held (fun i hi => endM_1 z1 i hi)) (by rw [show endM σ31 1 0 = 4 from endM_1 z1 0 (by decide)]; decide) (by rw [show endM σ31 1 0 = 4 from endM_1 z1 0 (by decide)]; decide) (fun t h1 h2 => ⟨h1, h2⟩))) (cwV 0 X.2.2.2.2 gX8_init_X8_lists rfl rfl rfl hd_M_lists ⟨x_fr hR.1.1 rfl, x_fr hR.1.2 rfl⟩) (o := 0) lm0 cX8 rfl hl.1 rfl (Nat.le_of_ble_eq_true rfl) dX8_init_416 ⟨x_fr hR.2.1 rfl, x_fr hR.2.2 rfl⟩ (fun t H locs ht hw => ?_)
    exact hret ad31 t H locs ls 419 he0 (finX8 z0 z1 z4 z24 ht.1 ht.2) hw dX8_init_419
  have loop3 : ∀ (d k : Nat), k + d = 6 → ∀ (H : Heap) (locs : List Loc) (ls : Array Slot) (q : Nat) (cA : ClassId) (f : Nat → Option Nat), (∀ i, i < 6 → f i = some (aK i)) → Ws G ad31 A s H locs (km (g2 (g1 (ss σ31 1 0 4) 84) 16) k) q cA f → lv_has ls 4 [(2, iV (k : Nat)), (1, .ref q), (0, .ref (ad31 0))] → W p l e R s m args below meth c H locs 28 36898 QQ (F0 m 344 ls []) := by
    intro d
    induction d with
    | zero =>
      intro k hk H locs ls q cA f hf hw hl
      have hk6 : k = 6 := by omega
      subst hk6
      refine x_iload_n X dX8_init_344 rfl (lv_at hl 0 rfl) ?_
      refine x_bipush X dX8_init_345 (by decide) ?_
      refine x_icmp_ge X rfl rfl 415 dX8_init_347 (by decide) (fun hc => ?_) (fun hc => absurd hc (by decide +kernel))
      exact last H locs ls hw.wy ⟨_, _, hl⟩
    | succ d ih =>
      intro k hk H locs ls q cA f hf hw hl
      have hk6 : k < 6 := by omega
      have ik : i32 (k : Nat) = (k : Nat) := i32_id (by omega) (by omega)
      have ik2 : (Int32.ofInt (k : Nat)).toNatClampNeg = k := ofc k (by omega)
      refine x_iload_n X dX8_init_344 rfl (lv_at hl 0 rfl) ?_
      refine x_bipush X dX8_init_345 (by decide) ?_
      refine x_icmp_ge X ik k32_6 415 dX8_init_347 (by decide) (fun hc => absurd hc (by omega)) (fun hc => ?_)
      refine x_aload_n X dX8_init_350 rfl (lv_at hl 2 rfl) ?_
      refine x_getr X hw.wy (o := 0) lm0 cX8 0 (by decide) (k0 := 0) rfl kX8_init_4 kX8_init_5 dX8_init_351 ?_
      refine x_bipush X dX8_init_354 (by decide) ?_
      refine x_bipush X dX8_init_356 (by decide) ?_
      refine x_iload_n X dX8_init_358 rfl (lv_at hl 0 rfl) ?_
      refine x_imul X dX8_init_359 ?_
      refine x_iadd X dX8_init_360 ?_
      refine x_aload_n X dX8_init_361 rfl (lv_at hl 1 rfl) ?_
      refine x_iload_n X dX8_init_362 rfl (lv_at hl 0 rfl) ?_
      refine x_aaldS X hw k (aK k) hk6 ik2 (hf k hk6) dX8_init_363 ?_
      refine x_cti X hw.wy hX.1.1 hAB k hk6 [] [iV (86 + 9 * (k : Nat)), .ref (ad31 1)] (c_length l k hk6) (cwV 0 X.2.2.2.2 gX8_init_J0_length_8abf5 rfl rfl rfl (by decide +kernel) ⟨x_fr hR.1.1 rfl, x_fr hR.1.2 rfl⟩) rfl hl.1 rfl (Nat.le_of_ble_eq_true rfl) dX8_init_364 ⟨x_fr hR.2.1 rfl, x_fr hR.2.2 rfl⟩ (fun H locs hwy hkk => ?_)
      replace hw := hw.kept hkk hwy.2.2.2
      rw [iV_nat]
      refine x_iastS X hw (j := 86 + 9 * (k : Nat)) (i32_id (by omega) (by omega)) ⟨by omega, by omega⟩ dX8_init_367 (fun H locs u1 hu1 hw => ?_)
      refine x_iconst X dX8_init_368 ?_
      refine x_istore_n X [(3, iV (0 : Nat)), (2, iV (k : Nat)), (1, .ref q), (0, .ref (ad31 0))] dX8_init_369 rfl hl (by decide) rfl (fun ls hl => ?_)
      have inner : ∀ (d i : Nat), i + d = lnW k → ∀ (H : Heap) (locs : List Loc) (ls : Array Slot), Ws G ad31 A s H locs (fm u1 k i) q cA f → lv_has ls 4 [(3, iV (i : Nat)), (2, iV (k : Nat)), (1, .ref q), (0, .ref (ad31 0))] → W p l e R s m args below meth c H locs 28 36898 QQ (F0 m 370 ls []) := by
        have hl4 : lnW k ≤ 4 := lnW_4 k hk6
        intro d
        induction d with
        | zero =>
          intro i hi H locs ls hw hl
          have hi' : i = lnW k := by omega
          refine x_iload_n X dX8_init_370 rfl (lv_at hl 0 rfl) ?_
          refine x_aload_n X dX8_init_371 rfl (lv_at hl 2 rfl) ?_
          refine x_iload_n X dX8_init_372 rfl (lv_at hl 1 rfl) ?_
          refine x_aaldS X hw k (aK k) hk6 ik2 (hf k hk6) dX8_init_373 ?_
          refine x_cti X hw.wy hX.1.1 hAB k hk6 [] [iV (i : Nat)] (c_length l k hk6) (cwV 0 X.2.2.2.2 gX8_init_J0_length_8abf5 rfl rfl rfl (by decide +kernel) ⟨x_fr hR.1.1 rfl, x_fr hR.1.2 rfl⟩) rfl hl.1 rfl (Nat.le_of_ble_eq_true rfl) dX8_init_374 ⟨x_fr hR.2.1 rfl, x_fr hR.2.2 rfl⟩ (fun H locs hwy hkk => ?_)
          replace hw := hw.kept hkk hwy.2.2.2
          rw [iV_nat]
          refine x_icmp_ge X (i32_id (by omega) (by omega)) (i32_id (by omega) (by omega)) 409 dX8_init_377 (by decide) (fun hc => ?_) (fun hc => absurd hc (by omega))
          refine x_iinc X (k := 1) ((k : Nat) + 1) [(2, iV ((k : Nat) + 1)), (3, iV (i : Nat)), (1, .ref q), (0, .ref (ad31 0))] dX8_init_409 hl rfl rfl (by decide) rfl (fun ls hl => ?_)
          refine x_goto X 344 dX8_init_412 (by decide) ?_
          rw [hi', hu1] at hw
          exact ih (k + 1) (by omega) H locs ls q cA f hf hw (lv_sub hl [0, 2, 3] rfl)
        | succ d ih2 =>
          intro i hi H locs ls hw hl
          have hil : i < lnW k := by omega
          refine x_iload_n X dX8_init_370 rfl (lv_at hl 0 rfl) ?_
          refine x_aload_n X dX8_init_371 rfl (lv_at hl 2 rfl) ?_
          refine x_iload_n X dX8_init_372 rfl (lv_at hl 1 rfl) ?_
          refine x_aaldS X hw k (aK k) hk6 ik2 (hf k hk6) dX8_init_373 ?_
          refine x_cti X hw.wy hX.1.1 hAB k hk6 [] [iV (i : Nat)] (c_length l k hk6) (cwV 0 X.2.2.2.2 gX8_init_J0_length_8abf5 rfl rfl rfl (by decide +kernel) ⟨x_fr hR.1.1 rfl, x_fr hR.1.2 rfl⟩) rfl hl.1 rfl (Nat.le_of_ble_eq_true rfl) dX8_init_374 ⟨x_fr hR.2.1 rfl, x_fr hR.2.2 rfl⟩ (fun H locs hwy hkk => ?_)
          replace hw := hw.kept hkk hwy.2.2.2
          rw [iV_nat]
          refine x_icmp_ge X (i32_id (by omega) (by omega)) (i32_id (by omega) (by omega)) 409 dX8_init_377 (by decide) (fun hc => absurd hc (by omega)) (fun hc => ?_)
          refine x_aload_n X dX8_init_380 rfl (lv_at hl 3 rfl) ?_
          refine x_getr X hw.wy (o := 0) lm0 cX8 0 (by decide) (k0 := 0) rfl kX8_init_4 kX8_init_5 dX8_init_381 ?_
          refine x_bipush X dX8_init_384 (by decide) ?_
          refine x_bipush X dX8_init_386 (by decide) ?_
          refine x_iload_n X dX8_init_388 rfl (lv_at hl 1 rfl) ?_
          refine x_imul X dX8_init_389 ?_
          refine x_iadd X dX8_init_390 ?_
          refine x_iconst X dX8_init_391 ?_
          refine x_iadd X dX8_init_392 ?_
          refine x_iload_n X dX8_init_393 rfl (lv_at hl 0 rfl) ?_
          refine x_iadd X dX8_init_394 ?_
          refine x_aload_n X dX8_init_395 rfl (lv_at hl 2 rfl) ?_
          refine x_iload_n X dX8_init_396 rfl (lv_at hl 1 rfl) ?_
          refine x_aaldS X hw k (aK k) hk6 ik2 (hf k hk6) dX8_init_397 ?_
          refine x_iload_n X dX8_init_398 rfl (lv_at hl 0 rfl) ?_
          have hC := c_charAt (aK := aK) (aV := aV) (fq := fq) (B0 := B0) l k i hk6 hil
          rw [iV_nat] at hC
          refine x_cti X hw.wy hX.1.1 hAB k hk6 [iV (i : Nat)] [iV (86 + 9 * (k : Nat) + 1 + (i : Nat)), .ref (ad31 1)] hC (cwV 1 X.2.2.2.2 gX8_init_J0_charAt_5068e rfl rfl rfl (by decide +kernel) ⟨x_fr hR.1.1 rfl, x_fr hR.1.2 rfl⟩) rfl hl.1 rfl (Nat.le_of_ble_eq_true rfl) dX8_init_399 ⟨x_fr hR.2.1 rfl, x_fr hR.2.2 rfl⟩ (fun H locs hwy hkk => ?_)
          replace hw := hw.kept hkk hwy.2.2.2
          rw [iV_i32]
          refine x_iastS X hw (i32_id (by omega) (by omega)) ⟨by omega, by omega⟩ dX8_init_402 (fun H locs u2 hu2 hw => ?_)
          refine x_iinc X (k := 0) ((i : Nat) + 1) [(3, iV ((i : Nat) + 1)), (2, iV (k : Nat)), (1, .ref q), (0, .ref (ad31 0))] dX8_init_403 hl rfl rfl (by decide) rfl (fun ls hl => ?_)
          refine x_goto X 370 dX8_init_406 (by decide) ?_
          rw [hu2] at hw
          exact ih2 (i + 1) (by omega) H locs ls hw hl
      exact inner (lnW k) 0 (by omega) H locs ls hw hl
  have mid : ∀ (H : Heap) (locs : List Loc) (ls : Array Slot), Wy vwCl G LM ad31 A s H locs (g2 (g1 (ss σ31 1 0 4) 84) 16) → lv_has ls 4 [(0, .ref (ad31 0))] → W p l e R s m args below meth c H locs 27 36892 QQ (F0 m 306 ls []) := by
    intro H locs ls hw hl
    refine x_bipush X dX8_init_306 (by decide) ?_
    refine x_newS X hw hA kX8_init_33 hAO (x_fr hR.2.1 rfl) (x_fr hR.2.2 rfl) dX8_init_308 (fun q cA H hw => ?_)
    refine x_dup X dX8_init_311 rfl ?_
    refine x_iconst X dX8_init_312 ?_
    refine va_ldcS X.1 X.2.1 X.2.2.2.1 (hX.1.2 0 (by decide)) dX8_init_313 ?_
    refine x_astS X hw hX.1.1 hAB 0 (by decide) (by decide +kernel) dX8_init_315 (fun H locs hw => ?_)
    refine x_dup X dX8_init_316 rfl ?_
    refine x_iconst X dX8_init_317 ?_
    refine va_ldcS X.1 X.2.1 X.2.2.2.1 (hX.1.2 1 (by decide)) dX8_init_318 ?_
    refine x_astS X hw hX.1.1 hAB 1 (by decide) (by decide +kernel) dX8_init_320 (fun H locs hw => ?_)
    refine x_dup X dX8_init_321 rfl ?_
    refine x_iconst X dX8_init_322 ?_
    refine va_ldcS X.1 X.2.1 X.2.2.2.1 (hX.1.2 2 (by decide)) dX8_init_323 ?_
    refine x_astS X hw hX.1.1 hAB 2 (by decide) (by decide +kernel) dX8_init_325 (fun H locs hw => ?_)
    refine x_dup X dX8_init_326 rfl ?_
    refine x_iconst X dX8_init_327 ?_
    refine va_ldcS X.1 X.2.1 X.2.2.2.1 (hX.1.2 3 (by decide)) dX8_init_328 ?_
    refine x_astS X hw hX.1.1 hAB 3 (by decide) (by decide +kernel) dX8_init_330 (fun H locs hw => ?_)
    refine x_dup X dX8_init_331 rfl ?_
    refine x_iconst X dX8_init_332 ?_
    refine va_ldcS X.1 X.2.1 X.2.2.2.1 (hX.1.2 4 (by decide)) dX8_init_333 ?_
    refine x_astS X hw hX.1.1 hAB 4 (by decide) (by decide +kernel) dX8_init_335 (fun H locs hw => ?_)
    refine x_dup X dX8_init_336 rfl ?_
    refine x_iconst X dX8_init_337 ?_
    refine va_ldcS X.1 X.2.1 X.2.2.2.1 (hX.1.2 5 (by decide)) dX8_init_338 ?_
    refine x_astS X hw hX.1.1 hAB 5 (by decide) (by decide +kernel) dX8_init_340 (fun H locs hw => ?_)
    refine x_astore_n X [(1, .ref q), (0, .ref (ad31 0))] dX8_init_341 rfl hl (by decide) rfl (fun ls hl => ?_)
    refine x_iconst X dX8_init_342 ?_
    refine x_istore_n X [(2, iV (0 : Nat)), (1, .ref q), (0, .ref (ad31 0))] dX8_init_343 rfl hl (by decide) rfl (fun ls hl => ?_)
    exact loop3 6 0 rfl H locs ls q cA _ (fun i hi => by
      have hc : i = 0 ∨ i = 1 ∨ i = 2 ∨ i = 3 ∨ i = 4 ∨ i = 5 := (by omega)
      rcases hc with rfl | rfl | rfl | rfl | rfl | rfl <;> rfl) hw hl
  have loop2 : ∀ (d t : Nat), t + d = 16 → ∀ (H : Heap) (locs : List Loc) (ls : Array Slot), Wy vwCl G LM ad31 A s H locs (g2 (g1 (ss σ31 1 0 4) 84) t) → lv_has ls 4 [(1, iV (t : Nat)), (0, .ref (ad31 0))] → W p l e R s m args below meth c H locs 27 36892 QQ (F0 m 281 ls []) := by
    intro d
    induction d with
    | zero =>
      intro t ht H locs ls hw hl
      have h16 : t = 16 := by omega
      subst h16
      refine x_iload_n X dX8_init_281 rfl (lv_at hl 0 rfl) ?_
      refine x_bipush X dX8_init_282 (by decide) ?_
      refine x_icmp_ge X rfl rfl 306 dX8_init_284 (by decide) (fun hc => ?_) (fun hc => absurd hc (by decide +kernel))
      exact mid H locs ls hw (lv_sub hl [1] rfl)
    | succ d ih =>
      intro t ht H locs ls hw hl
      refine x_iload_n X dX8_init_281 rfl (lv_at hl 0 rfl) ?_
      refine x_bipush X dX8_init_282 (by decide) ?_
      refine x_icmp_ge X (i32_id (by omega) (by omega)) k32_16 306 dX8_init_284 (by decide) (fun hc => absurd hc (by omega)) (fun hc => ?_)
      refine x_aload_n X dX8_init_287 rfl (lv_at hl 1 rfl) ?_
      refine x_getr X hw (o := 0) lm0 cX8 0 (by decide) (k0 := 0) rfl kX8_init_4 kX8_init_5 dX8_init_288 ?_
      refine x_sipush X dX8_init_291 (by decide) ?_
      refine x_iload_n X dX8_init_294 rfl (lv_at hl 0 rfl) ?_
      refine x_iadd X dX8_init_295 ?_
      refine x_sipush X dX8_init_296 (by decide) ?_
      refine x_iast X hw (k0 := 1) lm1 (j := 140 + (t : Nat)) (i32_id (by omega) (by omega)) rfl ⟨by omega, by omega⟩ dX8_init_299 (fun H locs u1 hu1 hw => ?_)
      refine x_iinc X (k := 0) ((t : Nat) + 1) [(1, iV ((t : Nat) + 1)), (0, .ref (ad31 0))] dX8_init_300 hl rfl rfl (by decide) rfl (fun ls hl => ?_)
      refine x_goto X 281 dX8_init_303 (by decide) ?_
      rw [hu1] at hw
      exact ih (t + 1) (by omega) H locs ls hw hl
  have loop1 : ∀ (d t : Nat), t + d = 84 → ∀ (H : Heap) (locs : List Loc) (ls : Array Slot), Wy vwCl G LM ad31 A s H locs (g1 (ss σ31 1 0 4) t) → lv_has ls 4 [(1, iV (t : Nat)), (0, .ref (ad31 0))] → W p l e R s m args below meth c H locs 27 36892 QQ (F0 m 258 ls []) := by
    intro d
    induction d with
    | zero =>
      intro t ht H locs ls hw hl
      have h16 : t = 84 := by omega
      subst h16
      refine x_iload_n X dX8_init_258 rfl (lv_at hl 0 rfl) ?_
      refine x_bipush X dX8_init_259 (by decide) ?_
      refine x_icmp_ge X rfl rfl 279 dX8_init_261 (by decide) (fun hc => ?_) (fun hc => absurd hc (by decide +kernel))
      refine x_iconst X dX8_init_279 ?_
      refine x_istore_n X [(1, iV (0 : Nat)), (0, .ref (ad31 0))] dX8_init_280 rfl hl (by decide) rfl (fun ls hl => ?_)
      exact loop2 16 0 rfl H locs ls hw hl
    | succ d ih =>
      intro t ht H locs ls hw hl
      refine x_iload_n X dX8_init_258 rfl (lv_at hl 0 rfl) ?_
      refine x_bipush X dX8_init_259 (by decide) ?_
      refine x_icmp_ge X (i32_id (by omega) (by omega)) k32_84x 279 dX8_init_261 (by decide) (fun hc => absurd hc (by omega)) (fun hc => ?_)
      refine x_aload_n X dX8_init_264 rfl (lv_at hl 1 rfl) ?_
      refine x_getr X hw (o := 0) lm0 cX8 0 (by decide) (k0 := 0) rfl kX8_init_4 kX8_init_5 dX8_init_265 ?_
      refine x_iconst X dX8_init_268 ?_
      refine x_iload_n X dX8_init_269 rfl (lv_at hl 0 rfl) ?_
      refine x_iadd X dX8_init_270 ?_
      refine x_iconst X dX8_init_271 ?_
      refine x_iast X hw (k0 := 1) lm1 (j := 2 + (t : Nat)) (i32_id (by omega) (by omega)) rfl ⟨by omega, by omega⟩ dX8_init_272 (fun H locs u1 hu1 hw => ?_)
      refine x_iinc X (k := 0) ((t : Nat) + 1) [(1, iV ((t : Nat) + 1)), (0, .ref (ad31 0))] dX8_init_273 hl rfl rfl (by decide) rfl (fun ls hl => ?_)
      refine x_goto X 258 dX8_init_276 (by decide) ?_
      rw [hu1] at hw
      exact ih (t + 1) (by omega) H locs ls hw hl
  exact loop1 84 0 rfl H locs ls hw hl
