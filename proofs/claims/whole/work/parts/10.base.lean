-- PURE: numbers
theorem i32_id {x : Int} (h1 : -2147483648 ≤ x) (h2 : x ≤ 2147483647) : i32 x = x := by
  unfold i32
  exact Int32.toInt_ofInt_of_le (by omega) (by omega)
theorem i64_id {x : Int} (h1 : -9223372036854775808 ≤ x) (h2 : x ≤ 9223372036854775807) : i64 x = x := by
  unfold i64
  exact Int64.toInt_ofInt_of_le (by omega) (by omega)
theorem i32_ge (x : Int) : -2147483648 ≤ i32 x := by
  have := Int32.le_toInt (Int32.ofInt x)
  unfold i32; omega
theorem i32_lt (x : Int) : i32 x ≤ 2147483647 := by
  have := Int32.toInt_lt (Int32.ofInt x)
  unfold i32; omega
theorem i64_ge (x : Int) : -9223372036854775808 ≤ i64 x := by
  have := Int64.le_toInt (Int64.ofInt x)
  unfold i64; omega
theorem i64_lt (x : Int) : i64 x ≤ 9223372036854775807 := by
  have := Int64.toInt_lt (Int64.ofInt x)
  unfold i64; omega
theorem i32_i32 (x : Int) : i32 (i32 x) = i32 x := i32_id (i32_ge x) (i32_lt x)
theorem i64_i64 (x : Int) : i64 (i64 x) = i64 x := i64_id (i64_ge x) (i64_lt x)
theorem ofi32 (x : Int) : Int32.ofInt (i32 x) = Int32.ofInt x := Int32.ofInt_toInt _
theorem ofi64 (x : Int) : Int64.ofInt (i64 x) = Int64.ofInt x := Int64.ofInt_toInt _
theorem i32_add (a b : Int) : i32 (i32 a + b) = i32 (a + b) := by
  unfold i32
  rw [Int32.ofInt_add, Int32.ofInt_add, Int32.ofInt_toInt]
theorem i32_add' (a b : Int) : i32 (a + i32 b) = i32 (a + b) := by
  rw [Int.add_comm, i32_add, Int.add_comm]
theorem i32_sub (a b : Int) : i32 (i32 a - b) = i32 (a - b) := by
  unfold i32
  rw [Int32.ofInt_sub, Int32.ofInt_sub, Int32.ofInt_toInt]
theorem i32_sub' (a b : Int) : i32 (a - i32 b) = i32 (a - b) := by
  unfold i32
  rw [Int32.ofInt_sub, Int32.ofInt_sub, Int32.ofInt_toInt]
-- states
theorem ss_at (σ : St) (k : Nat) (i v : Int) : ss σ k i v k i = v := by simp [ss]
theorem ss_row (σ : St) {k k' : Nat} (h : k' ≠ k) (i v : Int) : ss σ k i v k' = σ k' := by simp [ss, h]
theorem ss_ne (σ : St) (k : Nat) {i j : Int} (h : j ≠ i) (v : Int) : ss σ k i v k j = σ k j := by simp [ss, h]
theorem ss_self (σ : St) (k : Nat) (i v : Int) : ss σ k i v k = fun j => if j = i then v else σ k j := by simp [ss]
theorem sf_at (σ : St) (k : Nat) (f : Int → Int) : sf σ k f k = f := by simp [sf]
theorem sf_row (σ : St) {k k' : Nat} (h : k' ≠ k) (f : Int → Int) : sf σ k f k' = σ k' := by simp [sf, h]
-- loops: an invariant and a measure
theorem wl0 {B : (St → Prop) → St → Prop} {σ : St} (I : St → Prop) (μ : St → Nat) (h0 : I σ) (step : ∀ (bk : St → Prop) (σ : St), I σ → (∀ (τ : St), I τ → μ τ < μ σ → bk τ) → B bk σ) : WL0 B σ :=
  ⟨fun n σ => I σ ∧ μ σ = n, μ σ, ⟨h0, rfl⟩, fun n σ h => step _ σ h.1 (fun τ hI hm => ⟨μ τ, by rw [← h.2]; exact hm, hI, rfl⟩)⟩
theorem wl1 {B : (Int → St → Prop) → Int → St → Prop} {a : Int} {σ : St} (I : Int → St → Prop) (μ : Int → St → Nat) (h0 : I a σ) (step : ∀ (bk : Int → St → Prop) (a : Int) (σ : St), I a σ → (∀ (b : Int) (τ : St), I b τ → μ b τ < μ a σ → bk b τ) → B bk a σ) : WL1 B a σ :=
  ⟨fun n a σ => I a σ ∧ μ a σ = n, μ a σ, ⟨h0, rfl⟩, fun n a σ h => step _ a σ h.1 (fun b τ hI hm => ⟨μ b τ, by rw [← h.2]; exact hm, hI, rfl⟩)⟩
theorem wl2 {B : (Int → Int → St → Prop) → Int → Int → St → Prop} {a a2 : Int} {σ : St} (I : Int → Int → St → Prop) (μ : Int → Int → St → Nat) (h0 : I a a2 σ) (step : ∀ (bk : Int → Int → St → Prop) (a a2 : Int) (σ : St), I a a2 σ → (∀ (b b2 : Int) (τ : St), I b b2 τ → μ b b2 τ < μ a a2 σ → bk b b2 τ) → B bk a a2 σ) : WL2 B a a2 σ :=
  ⟨fun n a a2 σ => I a a2 σ ∧ μ a a2 σ = n, μ a a2 σ, ⟨h0, rfl⟩, fun n a a2 σ h => step _ a a2 σ h.1 (fun b b2 τ hI hm => ⟨μ b b2 τ, by rw [← h.2]; exact hm, hI, rfl⟩)⟩
theorem wl3 {B : (Int → Int → Int → St → Prop) → Int → Int → Int → St → Prop} {a a2 a3 : Int} {σ : St} (I : Int → Int → Int → St → Prop) (μ : Int → Int → Int → St → Nat) (h0 : I a a2 a3 σ) (step : ∀ (bk : Int → Int → Int → St → Prop) (a a2 a3 : Int) (σ : St), I a a2 a3 σ → (∀ (b b2 b3 : Int) (τ : St), I b b2 b3 τ → μ b b2 b3 τ < μ a a2 a3 σ → bk b b2 b3 τ) → B bk a a2 a3 σ) : WL3 B a a2 a3 σ :=
  ⟨fun n a a2 a3 σ => I a a2 a3 σ ∧ μ a a2 a3 σ = n, μ a a2 a3 σ, ⟨h0, rfl⟩, fun n a a2 a3 σ h => step _ a a2 a3 σ h.1 (fun b b2 b3 τ hI hm => ⟨μ b b2 b3 τ, by rw [← h.2]; exact hm, hI, rfl⟩)⟩
theorem wl4 {B : (Int → Int → Int → Int → St → Prop) → Int → Int → Int → Int → St → Prop} {a a2 a3 a4 : Int} {σ : St} (I : Int → Int → Int → Int → St → Prop) (μ : Int → Int → Int → Int → St → Nat) (h0 : I a a2 a3 a4 σ) (step : ∀ (bk : Int → Int → Int → Int → St → Prop) (a a2 a3 a4 : Int) (σ : St), I a a2 a3 a4 σ → (∀ (b b2 b3 b4 : Int) (τ : St), I b b2 b3 b4 τ → μ b b2 b3 b4 τ < μ a a2 a3 a4 σ → bk b b2 b3 b4 τ) → B bk a a2 a3 a4 σ) : WL4 B a a2 a3 a4 σ :=
  ⟨fun n a a2 a3 a4 σ => I a a2 a3 a4 σ ∧ μ a a2 a3 a4 σ = n, μ a a2 a3 a4 σ, ⟨h0, rfl⟩, fun n a a2 a3 a4 σ h => step _ a a2 a3 a4 σ h.1 (fun b b2 b3 b4 τ hI hm => ⟨μ b b2 b3 b4 τ, by rw [← h.2]; exact hm, hI, rfl⟩)⟩
theorem wl5 {B : (Int → Int → Int → Int → Int → St → Prop) → Int → Int → Int → Int → Int → St → Prop} {a a2 a3 a4 a5 : Int} {σ : St} (I : Int → Int → Int → Int → Int → St → Prop) (μ : Int → Int → Int → Int → Int → St → Nat) (h0 : I a a2 a3 a4 a5 σ) (step : ∀ (bk : Int → Int → Int → Int → Int → St → Prop) (a a2 a3 a4 a5 : Int) (σ : St), I a a2 a3 a4 a5 σ → (∀ (b b2 b3 b4 b5 : Int) (τ : St), I b b2 b3 b4 b5 τ → μ b b2 b3 b4 b5 τ < μ a a2 a3 a4 a5 σ → bk b b2 b3 b4 b5 τ) → B bk a a2 a3 a4 a5 σ) : WL5 B a a2 a3 a4 a5 σ :=
  ⟨fun n a a2 a3 a4 a5 σ => I a a2 a3 a4 a5 σ ∧ μ a a2 a3 a4 a5 σ = n, μ a a2 a3 a4 a5 σ, ⟨h0, rfl⟩, fun n a a2 a3 a4 a5 σ h => step _ a a2 a3 a4 a5 σ h.1 (fun b b2 b3 b4 b5 τ hI hm => ⟨μ b b2 b3 b4 b5 τ, by rw [← h.2]; exact hm, hI, rfl⟩)⟩
theorem mxi_max {a b : Int} (ha : i32 a = a) (hb : i32 b = b) : mxi a b = max a b := by
  unfold mxi
  rw [ha, hb]
  split <;> omega
theorem mni_min {a b : Int} (ha : i32 a = a) (hb : i32 b = b) : mni a b = min a b := by
  unfold mni
  rw [ha, hb]
  split <;> omega
theorem mab_abs {a : Int} (ha : i32 a = a) : mab a = if 0 ≤ a then a else -a := by
  unfold mab
  rw [ha]
  split <;> omega
theorem idv_nn {a b : Int} (ha : 0 ≤ a) (ha2 : a ≤ 2147483647) (hb : 0 < b) (hb2 : b ≤ 2147483647) : idv a b = a / b := by
  unfold idv
  have h1 : (Int32.ofInt a).toInt = a := i32_id (by omega) ha2
  have h2 : (Int32.ofInt b).toInt = b := i32_id (by omega) hb2
  rw [Int32.toInt_div_of_ne_right _ _ (by
    intro h
    have h3 : (Int32.ofInt b).toInt = -1 := by rw [h]; rfl
    omega), h1, h2, Int.tdiv_eq_ediv_of_nonneg ha]
theorem irm_nn {a b : Int} (ha : 0 ≤ a) (ha2 : a ≤ 2147483647) (hb : 0 < b) (hb2 : b ≤ 2147483647) : irm a b = a % b := by
  have h0 := idv_nn ha ha2 hb hb2
  unfold idv at h0
  have hq : Int32.ofInt a / Int32.ofInt b = Int32.ofInt (a / b) := by
    rw [← h0, Int32.ofInt_toInt]
  unfold irm
  rw [hq, ← Int32.ofInt_mul, ← Int32.ofInt_sub]
  have e : a - a / b * b = a % b := by
    have := Int.mul_ediv_add_emod a b
    rw [Int.mul_comm] at this
    omega
  rw [e]
  have := Int.emod_nonneg a (show b ≠ 0 by omega)
  have := Int.emod_lt_of_pos a hb
  exact i32_id (by omega) (by omega)
/-- Arrays.fill -/
theorem fillI_ok {a na : Nat} {σ : St} {v : Int} {Q : St → Prop} (hn : na < 100000) (h : Q (sf σ a (fun i => if 0 ≤ i ∧ i < na then v else σ a i))) : V_fillI a na σ v Q := by
  unfold V_fillI
  intro n hnn
  subst hnn
  refine wl1 (fun i τ => 0 ≤ i ∧ i ≤ na ∧ τ = sf σ a (fun j => if 0 ≤ j ∧ j < i then v else σ a j)) (fun i _ => (na - i).toNat) ⟨by omega, by omega, ?_⟩ ?_
  · funext k j
    unfold sf
    split
    · rename_i hk
      subst hk
      show σ k j = if 0 ≤ j ∧ j < 0 then v else σ k j
      rw [if_neg (by omega)]
    · rfl
  · intro bk i τ hI hb
    obtain ⟨h1, h2, h3⟩ := hI
    rw [i32_id (x := i) (by omega) (by omega), i32_id (x := (na : Int)) (by omega) (by omega)]
    refine ⟨fun hc => ?_, fun hc => ⟨⟨by omega, hc⟩, fun τ1 e1 => ?_⟩⟩
    · have : i = na := by omega
      subst this
      rw [h3]
      exact h
    · refine hb _ _ ⟨by omega, by omega, ?_⟩ (by omega)
      rw [e1, h3]
      funext k j
      unfold ss sf
      by_cases hk : k = a
      · subst hk
        simp only [if_true]
        by_cases hj : j = i
        · subst hj
          rw [if_pos rfl, if_pos ⟨by omega, by omega⟩]
        · rw [if_neg hj]
          by_cases hq : 0 ≤ j ∧ j < i
          · rw [if_pos hq, if_pos ⟨by omega, by omega⟩]
          · rw [if_neg hq, if_neg (by omega)]
      · rw [if_neg hk, if_neg hk, if_neg hk]
theorem fillJ_ok {a na : Nat} {σ : St} {v : Int} {Q : St → Prop} (hn : na < 100000) (h : Q (sf σ a (fun i => if 0 ≤ i ∧ i < na then v else σ a i))) : V_fillJ a na σ v Q := by
  unfold V_fillJ
  intro n hnn
  subst hnn
  refine wl1 (fun i τ => 0 ≤ i ∧ i ≤ na ∧ τ = sf σ a (fun j => if 0 ≤ j ∧ j < i then v else σ a j)) (fun i _ => (na - i).toNat) ⟨by omega, by omega, ?_⟩ ?_
  · funext k j
    unfold sf
    split
    · rename_i hk
      subst hk
      show σ k j = if 0 ≤ j ∧ j < 0 then v else σ k j
      rw [if_neg (by omega)]
    · rfl
  · intro bk i τ hI hb
    obtain ⟨h1, h2, h3⟩ := hI
    rw [i32_id (x := i) (by omega) (by omega), i32_id (x := (na : Int)) (by omega) (by omega)]
    refine ⟨fun hc => ?_, fun hc => ⟨⟨by omega, hc⟩, fun τ1 e1 => ?_⟩⟩
    · have : i = na := by omega
      subst this
      rw [h3]
      exact h
    · refine hb _ _ ⟨by omega, by omega, ?_⟩ (by omega)
      rw [e1, h3]
      funext k j
      unfold ss sf
      by_cases hk : k = a
      · subst hk
        simp only [if_true]
        by_cases hj : j = i
        · subst hj
          rw [if_pos rfl, if_pos ⟨by omega, by omega⟩]
        · rw [if_neg hj]
          by_cases hq : 0 ≤ j ∧ j < i
          · rw [if_pos hq, if_pos ⟨by omega, by omega⟩]
          · rw [if_neg hq, if_neg (by omega)]
      · rw [if_neg hk, if_neg hk, if_neg hk]
