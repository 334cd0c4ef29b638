def V_Ground_enter (σ : St) (a1 : Int) (a2 : Int) (a3 : Int) (Q : St → Prop) : Prop :=
  ∀ x4_1 : Int, x4_1 = σ 16 0 → (0 ≤ i32 x4_1 ∧ i32 x4_1 < 48) ∧ ∀ σ2 : St, σ2 = ss σ 17 (i32 x4_1) a1 → (0 ≤ i32 x4_1 ∧ i32 x4_1 < 48) ∧ ∀ σ3 : St, σ3 = ss σ2 18 (i32 x4_1) a2 → (0 ≤ i32 x4_1 ∧ i32 x4_1 < 48) ∧ ∀ σ4 : St, σ4 = ss σ3 19 (i32 x4_1) a3 → (0 ≤ i32 x4_1 ∧ i32 x4_1 < 48) ∧ ∀ σ5 : St, σ5 = ss σ4 20 (i32 x4_1) 0 → (0 ≤ i32 x4_1 ∧ i32 x4_1 < 48) ∧ ∀ σ6 : St, σ6 = ss σ5 21 (i32 x4_1) 0 → WL1 (fun (bk9 : Int → St → Prop) (x5_7 : Int) (σ8 : St) => ((i32 x4_1 ≤ i32 x5_7 → ∀ σ10 : St, σ10 = ss σ8 16 0 ((σ8 16 0) + 1) → ∀ σ11 : St, σ11 = ss σ10 16 1 (a1 + 1) → Q σ11) ∧ (i32 x5_7 < i32 x4_1 → (0 ≤ i32 x5_7 ∧ i32 x5_7 < 48) ∧ ((i32 a1 ≤ i32 (σ8 17 (i32 x5_7)) → bk9 (x5_7 + 1) σ8) ∧ (i32 (σ8 17 (i32 x5_7)) < i32 a1 → (0 ≤ i32 x5_7 ∧ i32 x5_7 < 48) ∧ ((1 < i32 (mab ((σ8 18 (i32 x5_7)) - a2)) → bk9 (x5_7 + 1) σ8) ∧ (i32 (mab ((σ8 18 (i32 x5_7)) - a2)) ≤ 1 → (0 ≤ i32 x4_1 ∧ i32 x4_1 < 48) ∧ (0 ≤ i32 x5_7 ∧ i32 x5_7 < 48) ∧ (0 ≤ i32 x4_1 ∧ i32 x4_1 < 48) ∧ ∀ σ12 : St, σ12 = ss σ8 21 (i32 x4_1) (lro (σ8 21 (i32 x4_1)) (lro (σ8 21 (i32 x5_7)) (lsh 1 x5_7))) → (0 ≤ i32 x4_1 ∧ i32 x4_1 < 48) ∧ (0 ≤ i32 x5_7 ∧ i32 x5_7 < 48) ∧ (0 ≤ i32 x4_1 ∧ i32 x4_1 < 48) ∧ ∀ σ13 : St, σ13 = ss σ12 20 (i32 x4_1) (mxi (σ12 20 (i32 x4_1)) ((σ12 20 (i32 x5_7)) + 1)) → bk9 (x5_7 + 1) σ13))))))) 0 σ6

def V_Ground_gather (σ : St) (Q : St → Prop) : Prop :=
  ∀ σ1 : St, σ1 = ss σ 16 0 0 → ∀ σ2 : St, σ2 = ss σ1 16 1 0 → WL1 (fun (bk5 : Int → St → Prop) (x2_3 : Int) (σ4 : St) => ((12 ≤ i32 x2_3 → Q σ4) ∧ (i32 x2_3 < 12 → WL1 (fun (bk8 : Int → St → Prop) (x3_6 : Int) (σ7 : St) => ((i32 ((σ7 1 0) - 1) ≤ i32 x3_6 → bk5 (x2_3 + 1) σ7) ∧ (i32 x3_6 < i32 ((σ7 1 0) - 1) → (0 ≤ i32 ((x2_3 * 7) + x3_6) ∧ i32 ((x2_3 * 7) + x3_6) < 84) ∧ ∀ x4_9 : Int, x4_9 = σ7 2 (i32 ((x2_3 * 7) + x3_6)) → ((i32 x4_9 = (-1) → bk8 (x3_6 + 1) σ7) ∧ (¬ i32 x4_9 = (-1) → ((48 ≤ i32 (σ7 16 0) → bk8 (x3_6 + 1) σ7) ∧ (i32 (σ7 16 0) < 48 → V_Ground_enter σ7 x2_3 x3_6 x4_9 (fun (σ10 : St) => bk8 (x3_6 + 1) σ10)))))))) 0 σ4))) 0 σ2

def V_Ground_leads (σ : St) (a1 : Int) (a2 : Int) (Q : Int → St → Prop) : Prop :=
  (0 ≤ i32 a2 ∧ i32 a2 < 48) ∧ ((¬ i64 (lan (lsr (σ 21 (i32 a2)) a1) 1) = 1 → Q 0 σ) ∧ (i64 (lan (lsr (σ 21 (i32 a2)) a1) 1) = 1 → Q 1 σ))

def V_Ground_isFree (σ : St) (a1 : Int) (a2 : Int) (Q : Int → St → Prop) : Prop :=
  ((¬ i64 (lan (lsr a2 a1) 1) = 0 → Q 0 σ) ∧ (i64 (lan (lsr a2 a1) 1) = 0 → (0 ≤ i32 a1 ∧ i32 a1 < 48) ∧ ((¬ i64 (lan (σ 21 (i32 a1)) (lxr a2 (-1))) = 0 → Q 0 σ) ∧ (i64 (lan (σ 21 (i32 a1)) (lxr a2 (-1))) = 0 → Q 1 σ))))

def V_Ground_countFree (σ : St) (a1 : Int) (Q : Int → St → Prop) : Prop :=
  WL2 (fun (bk4 : Int → Int → St → Prop) (x4_1 : Int) (x3_2 : Int) (σ3 : St) => ((i32 (σ3 16 0) ≤ i32 x4_1 → Q x3_2 σ3) ∧ (i32 x4_1 < i32 (σ3 16 0) → V_Ground_isFree σ3 x4_1 a1 (fun (r6 : Int) (σ5 : St) => ((i32 r6 = 0 → bk4 (x4_1 + 1) x3_2 σ5) ∧ (¬ i32 r6 = 0 → bk4 (x4_1 + 1) (x3_2 + 1) σ5)))))) 0 0 σ

def V_Ground_leastFree (σ : St) (a1 : Int) (Q : Int → St → Prop) : Prop :=
  WL1 (fun (bk3 : Int → St → Prop) (x3_1 : Int) (σ2 : St) => ((i32 (σ2 16 0) ≤ i32 x3_1 → Q (-1) σ2) ∧ (i32 x3_1 < i32 (σ2 16 0) → V_Ground_isFree σ2 x3_1 a1 (fun (r5 : Int) (σ4 : St) => ((i32 r5 = 0 → bk3 (x3_1 + 1) σ4) ∧ (¬ i32 r5 = 0 → Q x3_1 σ4)))))) 0 σ

def V_Ground_countBehind (σ : St) (a1 : Int) (Q : Int → St → Prop) : Prop :=
  WL2 (fun (bk4 : Int → Int → St → Prop) (x3_1 : Int) (x2_2 : Int) (σ3 : St) => ((i32 (σ3 16 0) ≤ i32 x3_1 → Q x2_2 σ3) ∧ (i32 x3_1 < i32 (σ3 16 0) → V_Ground_leads σ3 a1 x3_1 (fun (r6 : Int) (σ5 : St) => ((i32 r6 = 0 → bk4 (x3_1 + 1) x2_2 σ5) ∧ (¬ i32 r6 = 0 → bk4 (x3_1 + 1) (x2_2 + 1) σ5)))))) 0 0 σ

def V_Ground_longestChain (σ : St) (Q : Int → St → Prop) : Prop :=
  WL2 (fun (bk4 : Int → Int → St → Prop) (x2_1 : Int) (x1_2 : Int) (σ3 : St) => ((i32 (σ3 16 0) ≤ i32 x2_1 → Q x1_2 σ3) ∧ (i32 x2_1 < i32 (σ3 16 0) → (0 ≤ i32 x2_1 ∧ i32 x2_1 < 48) ∧ ∀ x1_5 : Int, x1_5 = mxi x1_2 ((σ3 20 (i32 x2_1)) + 1) → bk4 (x2_1 + 1) x1_5 σ3))) 0 0 σ

def V_Ground_widestLeftOf (σ : St) (a1 : Int) (Q : Int → St → Prop) : Prop :=
  WL2 (fun (bk4 : Int → Int → St → Prop) (x3_1 : Int) (x2_2 : Int) (σ3 : St) => ((i32 (σ3 16 0) ≤ i32 x3_1 → Q x2_2 σ3) ∧ (i32 x3_1 < i32 (σ3 16 0) → (0 ≤ i32 x3_1 ∧ i32 x3_1 < 48) ∧ (0 ≤ i32 a1 ∧ i32 a1 < 48) ∧ ((i32 (σ3 18 (i32 a1)) ≤ i32 (σ3 18 (i32 x3_1)) → bk4 (x3_1 + 1) x2_2 σ3) ∧ (i32 (σ3 18 (i32 x3_1)) < i32 (σ3 18 (i32 a1)) → V_Ground_leads σ3 a1 x3_1 (fun (r6 : Int) (σ5 : St) => ((¬ i32 r6 = 0 → bk4 (x3_1 + 1) x2_2 σ5) ∧ (i32 r6 = 0 → V_Ground_leads σ5 x3_1 a1 (fun (r8 : Int) (σ7 : St) => ((¬ i32 r8 = 0 → bk4 (x3_1 + 1) x2_2 σ7) ∧ (i32 r8 = 0 → (0 ≤ i32 x3_1 ∧ i32 x3_1 < 48) ∧ ∀ x2_9 : Int, x2_9 = mxi x2_2 (σ7 22 (i32 x3_1)) → bk4 (x3_1 + 1) x2_9 σ7))))))))))) 0 0 σ

def V_Ground_widest (σ : St) (Q : Int → St → Prop) : Prop :=
  WL2 (fun (bk4 : Int → Int → St → Prop) (x2_1 : Int) (x1_2 : Int) (σ3 : St) => ((7 ≤ i32 x2_1 → Q x1_2 σ3) ∧ (i32 x2_1 < 7 → WL2 (fun (bk8 : Int → Int → St → Prop) (x3_5 : Int) (x1_6 : Int) (σ7 : St) => ((i32 (σ7 16 0) ≤ i32 x3_5 → bk4 (x2_1 + 1) x1_6 σ7) ∧ (i32 x3_5 < i32 (σ7 16 0) → (0 ≤ i32 x3_5 ∧ i32 x3_5 < 48) ∧ ((¬ i32 (σ7 18 (i32 x3_5)) = i32 x2_1 → bk8 (x3_5 + 1) x1_6 σ7) ∧ (i32 (σ7 18 (i32 x3_5)) = i32 x2_1 → V_Ground_widestLeftOf σ7 x3_5 (fun (r10 : Int) (σ9 : St) => (0 ≤ i32 x3_5 ∧ i32 x3_5 < 48) ∧ ∀ σ11 : St, σ11 = ss σ9 22 (i32 x3_5) (1 + r10) → (0 ≤ i32 x3_5 ∧ i32 x3_5 < 48) ∧ ∀ x1_12 : Int, x1_12 = mxi x1_6 (σ11 22 (i32 x3_5)) → bk8 (x3_5 + 1) x1_12 σ11)))))) 0 x1_2 σ3))) 0 0 σ

def V_fillI (a : Nat) (na : Nat) (σ : St) (a1 : Int) (Q : St → Prop) : Prop :=
  ∀ x3_1 : Int, x3_1 = (na : Int) → WL1 (fun (bk4 : Int → St → Prop) (x2_2 : Int) (σ3 : St) => ((i32 x3_1 ≤ i32 x2_2 → Q σ3) ∧ (i32 x2_2 < i32 x3_1 → (0 ≤ i32 x2_2 ∧ i32 x2_2 < (na : Int)) ∧ ∀ σ5 : St, σ5 = ss σ3 a (i32 x2_2) a1 → bk4 (x2_2 + 1) σ5))) 0 σ

def V_Heap_clear (o : Nat) (σ : St) (Q : St → Prop) : Prop :=
  ∀ σ1 : St, σ1 = ss σ o 0 0 → V_fillI (o + 1) 1440 σ1 0 (fun (σ2 : St) => V_fillI (o + 2) 17 σ2 (-1) (fun (σ3 : St) => Q σ3))

def V_Heap_copyFrom (σ : St) (Q : St → Prop) : Prop :=
  ∀ σ1 : St, σ1 = ss σ 13 0 (σ 38 0) → ∀ σ2 : St, σ2 = sf σ1 14 (fun i => if 0 ≤ i ∧ i < 1440 then σ1 39 i else σ1 14 i) → ∀ σ3 : St, σ3 = sf σ2 15 (fun i => if 0 ≤ i ∧ i < 17 then σ2 40 i else σ2 15 i) → Q σ3

def V_Heap_takeTop (o : Nat) (σ : St) (a1 : Int) (a2 : Int) (Q : St → Prop) : Prop :=
  (0 ≤ i32 ((a2 * 15) + a1) ∧ i32 ((a2 * 15) + a1) < 1440) ∧ ∀ σ1 : St, σ1 = ss σ (o + 1) (i32 ((a2 * 15) + a1)) 0 → ∀ σ2 : St, σ2 = ss σ1 o 0 ((σ1 o 0) - 1) → ∀ x3_3 : Int, x3_3 = a2 - 1 → WL1 (fun (bk6 : Int → St → Prop) (x3_4 : Int) (σ5 : St) => ((i32 x3_4 < 0 → (0 ≤ i32 (a1 + 1) ∧ i32 (a1 + 1) < 17) ∧ ∀ σ7 : St, σ7 = ss σ5 (o + 2) (i32 (a1 + 1)) x3_4 → Q σ7) ∧ (0 ≤ i32 x3_4 → (0 ≤ i32 ((x3_4 * 15) + a1) ∧ i32 ((x3_4 * 15) + a1) < 1440) ∧ ((¬ i32 (σ5 (o + 1) (i32 ((x3_4 * 15) + a1))) = 0 → (0 ≤ i32 (a1 + 1) ∧ i32 (a1 + 1) < 17) ∧ ∀ σ8 : St, σ8 = ss σ5 (o + 2) (i32 (a1 + 1)) x3_4 → Q σ8) ∧ (i32 (σ5 (o + 1) (i32 ((x3_4 * 15) + a1))) = 0 → bk6 (x3_4 + (-1)) σ5))))) x3_3 σ2

def J_Heap_add_56 (o : Nat) (a1 : Int) (a2 : Int) (Q : St → Prop) (x3_1 : Int) (x4_2 : Int) (σ3 : St) : Prop :=
  ∀ x5_4 : Int, x5_4 = (mxi x3_1 x4_2) + 1 → ((96 ≤ i32 x5_4 → Q σ3) ∧ (i32 x5_4 < 96 → (0 ≤ i32 ((x5_4 * 15) + a1) ∧ i32 ((x5_4 * 15) + a1) < 1440) ∧ ∀ σ5 : St, σ5 = ss σ3 (o + 1) (i32 ((x5_4 * 15) + a1)) a2 → (0 ≤ i32 (a1 + 1) ∧ i32 (a1 + 1) < 17) ∧ ∀ σ6 : St, σ6 = ss σ5 (o + 2) (i32 (a1 + 1)) x5_4 → ∀ σ7 : St, σ7 = ss σ6 o 0 ((σ6 o 0) + 1) → Q σ7))
def V_Heap_add (o : Nat) (σ : St) (a1 : Int) (a2 : Int) (Q : St → Prop) : Prop :=
  (0 ≤ i32 (a1 + 1) ∧ i32 (a1 + 1) < 17) ∧ ∀ x3_1 : Int, x3_1 = σ (o + 2) (i32 (a1 + 1)) → (0 ≤ i32 a1 ∧ i32 a1 < 17) ∧ (0 ≤ i32 (a1 + 2) ∧ i32 (a1 + 2) < 17) ∧ ∀ x4_2 : Int, x4_2 = mxi (σ (o + 2) (i32 a1)) (σ (o + 2) (i32 (a1 + 2))) → ((i32 x3_1 ≤ i32 x4_2 → J_Heap_add_56 o a1 a2 Q x3_1 x4_2 σ) ∧ (i32 x4_2 < i32 x3_1 → (0 ≤ i32 ((x3_1 * 15) + a1) ∧ i32 ((x3_1 * 15) + a1) < 1440) ∧ ((i32 (σ (o + 1) (i32 ((x3_1 * 15) + a1))) = i32 a2 → J_Heap_add_56 o a1 a2 Q x3_1 x4_2 σ) ∧ (¬ i32 (σ (o + 1) (i32 ((x3_1 * 15) + a1))) = i32 a2 → V_Heap_takeTop o σ a1 x3_1 (fun (σ8 : St) => Q σ8)))))

def V_Heap_signAt (o : Nat) (σ : St) (a1 : Int) (a2 : Int) (Q : Int → St → Prop) : Prop :=
  ((96 ≤ i32 a1 → Q 0 σ) ∧ (i32 a1 < 96 → (0 ≤ i32 ((a1 * 15) + a2) ∧ i32 ((a1 * 15) + a2) < 1440) ∧ Q (σ (o + 1) (i32 ((a1 * 15) + a2))) σ))

def V_Heap_countLayers (o : Nat) (σ : St) (Q : Int → St → Prop) : Prop :=
  WL2 (fun (bk4 : Int → Int → St → Prop) (x2_1 : Int) (x1_2 : Int) (σ3 : St) => ((15 ≤ i32 x2_1 → Q x1_2 σ3) ∧ (i32 x2_1 < 15 → (0 ≤ i32 (x2_1 + 1) ∧ i32 (x2_1 + 1) < 17) ∧ ∀ x1_5 : Int, x1_5 = mxi x1_2 ((σ3 (o + 2) (i32 (x2_1 + 1))) + 1) → bk4 (x2_1 + 1) x1_5 σ3))) 0 0 σ

def V_Heap_countSign (o : Nat) (σ : St) (a1 : Int) (Q : Int → St → Prop) : Prop :=
  WL2 (fun (bk4 : Int → Int → St → Prop) (x3_1 : Int) (x2_2 : Int) (σ3 : St) => ((1440 ≤ i32 x3_1 → Q x2_2 σ3) ∧ (i32 x3_1 < 1440 → (0 ≤ i32 x3_1 ∧ i32 x3_1 < 1440) ∧ ((¬ i32 (σ3 (o + 1) (i32 x3_1)) = i32 a1 → bk4 (x3_1 + 1) x2_2 σ3) ∧ (i32 (σ3 (o + 1) (i32 x3_1)) = i32 a1 → bk4 (x3_1 + 1) (x2_2 + 1) σ3))))) 0 0 σ

def V_Heap_isAs (σ : St) (Q : Int → St → Prop) : Prop :=
  WL1 (fun (bk3 : Int → St → Prop) (x2_1 : Int) (σ2 : St) => ((1440 ≤ i32 x2_1 → Q 1 σ2) ∧ (i32 x2_1 < 1440 → (0 ≤ i32 x2_1 ∧ i32 x2_1 < 1440) ∧ (0 ≤ i32 x2_1 ∧ i32 x2_1 < 1440) ∧ ((i32 (σ2 39 (i32 x2_1)) = i32 (σ2 14 (i32 x2_1)) → bk3 (x2_1 + 1) σ2) ∧ (¬ i32 (σ2 39 (i32 x2_1)) = i32 (σ2 14 (i32 x2_1)) → Q 0 σ2))))) 0 σ

def V_Plan_copyFrom (o : Nat) (o2 : Nat) (σ : St) (Q : St → Prop) : Prop :=
  ∀ σ1 : St, σ1 = ss σ o 0 (σ o2 0) → ∀ σ2 : St, σ2 = sf σ1 (o + 1) (fun i => if 0 ≤ i ∧ i < 84 then σ1 (o2 + 1) i else σ1 (o + 1) i) → ∀ σ3 : St, σ3 = sf σ2 (o + 2) (fun i => if 0 ≤ i ∧ i < 48 then σ2 (o2 + 2) i else σ2 (o + 2) i) → ∀ σ4 : St, σ4 = sf σ3 (o + 3) (fun i => if 0 ≤ i ∧ i < 6 then σ3 (o2 + 3) i else σ3 (o + 3) i) → ∀ σ5 : St, σ5 = sf σ4 (o + 4) (fun i => if 0 ≤ i ∧ i < 16 then σ4 (o2 + 4) i else σ4 (o + 4) i) → ∀ σ6 : St, σ6 = sf σ5 (o + 5) (fun i => if 0 ≤ i ∧ i < 48 then σ5 (o2 + 5) i else σ5 (o + 5) i) → ∀ σ7 : St, σ7 = ss σ6 o 6 (σ6 o2 6) → Q σ7

def V_Plan_crossingsOf (σ : St) (a1 : Int) (Q : Int → St → Prop) : Prop :=
  WL2 (fun (bk4 : Int → Int → St → Prop) (x3_1 : Int) (x2_2 : Int) (σ3 : St) => (0 ≤ i32 a1 ∧ i32 a1 < 6) ∧ ((i32 (σ3 4 (i32 a1)) ≤ i32 x3_1 → Q x2_2 σ3) ∧ (i32 x3_1 < i32 (σ3 4 (i32 a1)) → (0 ≤ i32 ((a1 * 8) + x3_1) ∧ i32 ((a1 * 8) + x3_1) < 48) ∧ ∀ x4_5 : Int, x4_5 = σ3 3 (i32 ((a1 * 8) + x3_1)) → ((i32 x4_5 = 99 → ∀ x2_6 : Int, x2_6 = x2_2 + 1 → bk4 (x3_1 + 1) x2_6 σ3) ∧ (¬ i32 x4_5 = 99 → ((¬ i32 x4_5 = 67 → ∀ x2_7 : Int, x2_7 = x2_2 + 2 → bk4 (x3_1 + 1) x2_7 σ3) ∧ (i32 x4_5 = 67 → ∀ x2_8 : Int, x2_8 = x2_2 + 1 → bk4 (x3_1 + 1) x2_8 σ3))))))) 0 0 σ

def V_Plan_repeatsBy (σ : St) (a1 : Int) (a2 : Int) (Q : Int → St → Prop) : Prop :=
  WL1 (fun (bk3 : Int → St → Prop) (x3_1 : Int) (σ2 : St) => ((i32 a2 ≤ i32 x3_1 → Q 1 σ2) ∧ (i32 x3_1 < i32 a2 → WL1 (fun (bk6 : Int → St → Prop) (x4_4 : Int) (σ5 : St) => ((7 ≤ i32 x4_4 → bk3 (x3_1 + 1) σ5) ∧ (i32 x4_4 < 7 → (0 ≤ i32 ((x3_1 * 7) + x4_4) ∧ i32 ((x3_1 * 7) + x4_4) < 84) ∧ (0 ≤ i32 (((x3_1 - a1) * 7) + x4_4) ∧ i32 (((x3_1 - a1) * 7) + x4_4) < 84) ∧ ((i32 (σ5 2 (i32 ((x3_1 * 7) + x4_4))) = i32 (σ5 2 (i32 (((x3_1 - a1) * 7) + x4_4))) → bk6 (x4_4 + 1) σ5) ∧ (¬ i32 (σ5 2 (i32 ((x3_1 * 7) + x4_4))) = i32 (σ5 2 (i32 (((x3_1 - a1) * 7) + x4_4))) → Q 0 σ5))))) 0 σ2))) a1 σ

def V_Plan_fitsCell (σ : St) (a1 : Int) (a2 : Int) (Q : Int → St → Prop) : Prop :=
  ((i64 a1 = (-2) → Q 1 σ) ∧ (¬ i64 a1 = (-2) → ((¬ i64 a1 = i32 a2 → Q 0 σ) ∧ (i64 a1 = i32 a2 → Q 1 σ))))

def V_Plan_fits (sh : Nat) (σ : St) (a1 : Int) (a2 : Int) (a3 : Int) (Q : Int → St → Prop) : Prop :=
  ((i32 (a3 + a1) ≤ i32 ((σ 1 0) - 1) → WL3 (fun (bk5 : Int → Int → Int → St → Prop) (x7_1 : Int) (x6_2 : Int) (x5_3 : Int) (σ4 : St) => ((i32 (σ4 sh 1) ≤ i32 x7_1 → Q 1 σ4) ∧ (i32 x7_1 < i32 (σ4 sh 1) → ((12 ≤ i32 x5_3 → Q 0 σ4) ∧ (i32 x5_3 < 12 → (0 ≤ i32 x7_1 ∧ i32 x7_1 < 60) ∧ (0 ≤ i32 (((x5_3 * 7) + a3) + x6_2) ∧ i32 (((x5_3 * 7) + a3) + x6_2) < 84) ∧ V_Plan_fitsCell σ4 (σ4 (sh + 1) (i32 x7_1)) (σ4 2 (i32 (((x5_3 * 7) + a3) + x6_2))) (fun (r7 : Int) (σ6 : St) => ((¬ i32 r7 = 0 → ((¬ i32 (x6_2 + 1) = i32 a1 → bk5 (x7_1 + 1) (x6_2 + 1) x5_3 σ6) ∧ (i32 (x6_2 + 1) = i32 a1 → bk5 (x7_1 + 1) 0 (x5_3 + 1) σ6))) ∧ (i32 r7 = 0 → Q 0 σ6)))))))) 0 0 a2 σ) ∧ (i32 ((σ 1 0) - 1) < i32 (a3 + a1) → Q 0 σ))

def V_fillJ (a : Nat) (na : Nat) (σ : St) (a1 : Int) (Q : St → Prop) : Prop :=
  ∀ x4_1 : Int, x4_1 = (na : Int) → WL1 (fun (bk4 : Int → St → Prop) (x3_2 : Int) (σ3 : St) => ((i32 x4_1 ≤ i32 x3_2 → Q σ3) ∧ (i32 x3_2 < i32 x4_1 → (0 ≤ i32 x3_2 ∧ i32 x3_2 < (na : Int)) ∧ ∀ σ5 : St, σ5 = ss σ3 a (i32 x3_2) a1 → bk4 (x3_2 + 1) σ5))) 0 σ

def V_Sheet_begin (sh : Nat) (σ : St) (a1 : Int) (a2 : Int) (Q : St → Prop) : Prop :=
  ∀ σ1 : St, σ1 = ss σ sh 0 a1 → ∀ σ2 : St, σ2 = ss σ1 sh 1 a2 → V_fillJ (sh + 1) 60 σ2 0 (fun (σ3 : St) => Q σ3)

def V_Sheet_has (sh : Nat) (σ : St) (a1 : Int) (Q : Int → St → Prop) : Prop :=
  ((i32 (σ sh 0) = (-1) → Q 0 σ) ∧ (¬ i32 (σ sh 0) = (-1) → ((i32 a1 < 0 → Q 0 σ) ∧ (0 ≤ i32 a1 → ((i32 (σ sh 1) ≤ i32 a1 → Q 0 σ) ∧ (i32 a1 < i32 (σ sh 1) → Q 1 σ))))))

def V_Sheet_cut (sh : Nat) (σ : St) (a1 : Int) (Q : Int → St → Prop) : Prop :=
  ((i32 (σ sh 0) = 0 → ((i64 a1 = 0 → Q 0 σ) ∧ (¬ i64 a1 = 0 → Q 1 σ))) ∧ (i32 (σ sh 0) = 1 → Q (i32 (i16 a1)) σ) ∧ (i32 (σ sh 0) = 2 → Q (i32 a1) σ) ∧ ((i32 (σ sh 0) < 0 ∨ 2 < i32 (σ sh 0)) → Q a1 σ))

def J_Tape_prickingFault_93 (Q : Int → St → Prop) (x5_1 : Int) (x4_2 : Int) (x3_3 : Int) (x2_4 : Int) (bk6 : Int → Int → Int → Int → St → Prop) (y0_8 : Int) (σ10 : St) : Prop :=
  ((i32 y0_8 = 0 → bk6 (x5_1 + 1) y0_8 (x3_3 + 1) x2_4 σ10) ∧ (¬ i32 y0_8 = 0 → ((i32 x4_2 = 0 → bk6 (x5_1 + 1) y0_8 (x3_3 + 1) x2_4 σ10) ∧ (¬ i32 x4_2 = 0 → Q x5_1 σ10))))
def J_Tape_prickingFault_79 (Q : Int → St → Prop) (x5_1 : Int) (x4_2 : Int) (x3_3 : Int) (x2_4 : Int) (bk6 : Int → Int → Int → Int → St → Prop) (x6_7 : Int) (y0_8 : Int) (σ9 : St) : Prop :=
  ((i32 x6_7 = 46 → J_Tape_prickingFault_93 Q x5_1 x4_2 x3_3 x2_4 bk6 y0_8 σ9) ∧ (¬ i32 x6_7 = 46 → ((i32 y0_8 = 0 → Q x5_1 σ9) ∧ (¬ i32 y0_8 = 0 → J_Tape_prickingFault_93 Q x5_1 x4_2 x3_3 x2_4 bk6 y0_8 σ9))))
def J_Tape_prickingFault_78 (Q : Int → St → Prop) (x5_1 : Int) (x4_2 : Int) (x3_3 : Int) (x2_4 : Int) (bk6 : Int → Int → Int → Int → St → Prop) (x6_7 : Int) (σ11 : St) : Prop :=
  J_Tape_prickingFault_79 Q x5_1 x4_2 x3_3 x2_4 bk6 x6_7 0 σ11
def V_Tape_prickingFault (σ : St) (a1 : Int) (Q : Int → St → Prop) : Prop :=
  WL4 (fun (bk6 : Int → Int → Int → Int → St → Prop) (x5_1 : Int) (x4_2 : Int) (x3_3 : Int) (x2_4 : Int) (σ5 : St) => ((i32 (σ5 53 1) ≤ i32 x5_1 → ((¬ i32 x3_3 = i32 a1 → Q (σ5 53 1) σ5) ∧ (i32 x3_3 = i32 a1 → Q (-1) σ5))) ∧ (i32 x5_1 < i32 (σ5 53 1) → (0 ≤ i32 x5_1 ∧ i32 x5_1 < 120) ∧ ∀ x6_7 : Int, x6_7 = σ5 54 (i32 x5_1) → ((¬ i32 x3_3 = i32 a1 → ((i32 x6_7 < 97 → J_Tape_prickingFault_78 Q x5_1 x4_2 x3_3 x2_4 bk6 x6_7 σ5) ∧ (97 ≤ i32 x6_7 → ((102 < i32 x6_7 → J_Tape_prickingFault_78 Q x5_1 x4_2 x3_3 x2_4 bk6 x6_7 σ5) ∧ (i32 x6_7 ≤ 102 → J_Tape_prickingFault_79 Q x5_1 x4_2 x3_3 x2_4 bk6 x6_7 1 σ5))))) ∧ (i32 x3_3 = i32 a1 → ((¬ i32 x6_7 = 47 → Q x5_1 σ5) ∧ (i32 x6_7 = 47 → ((¬ i32 x2_4 = 11 → bk6 (x5_1 + 1) 0 0 (x2_4 + 1) σ5) ∧ (i32 x2_4 = 11 → Q x5_1 σ5))))))))) 0 0 0 0 σ

def V_Tape_wordFault (σ : St) (Q : Int → St → Prop) : Prop :=
  WL1 (fun (bk3 : Int → St → Prop) (x1_1 : Int) (σ2 : St) => ((i32 (σ2 53 1) ≤ i32 x1_1 → ((¬ i32 (σ2 53 1) = 0 → Q (-1) σ2) ∧ (i32 (σ2 53 1) = 0 → Q 0 σ2))) ∧ (i32 x1_1 < i32 (σ2 53 1) → (0 ≤ i32 x1_1 ∧ i32 x1_1 < 120) ∧ ∀ x2_4 : Int, x2_4 = σ2 54 (i32 x1_1) → ((8 ≤ i32 x1_1 → Q x1_1 σ2) ∧ (i32 x1_1 < 8 → ((i32 x2_4 = 99 → bk3 (x1_1 + 1) σ2) ∧ (¬ i32 x2_4 = 99 → ((i32 x2_4 = 67 → bk3 (x1_1 + 1) σ2) ∧ (¬ i32 x2_4 = 67 → ((i32 x2_4 = 116 → bk3 (x1_1 + 1) σ2) ∧ (¬ i32 x2_4 = 116 → ((i32 x2_4 = 84 → bk3 (x1_1 + 1) σ2) ∧ (¬ i32 x2_4 = 84 → Q x1_1 σ2))))))))))))) 0 σ

def V_Tape_prickInto (σ : St) (Q : St → Prop) : Prop :=
  V_fillI 2 84 σ (-1) (fun (σ1 : St) => WL3 (fun (bk6 : Int → Int → Int → St → Prop) (x4_2 : Int) (x3_3 : Int) (x2_4 : Int) (σ5 : St) => ((i32 (σ5 53 1) ≤ i32 x4_2 → Q σ5) ∧ (i32 x4_2 < i32 (σ5 53 1) → (0 ≤ i32 x4_2 ∧ i32 x4_2 < 120) ∧ ((¬ i32 (σ5 54 (i32 x4_2)) = 47 → (0 ≤ i32 x4_2 ∧ i32 x4_2 < 120) ∧ ((i32 (σ5 54 (i32 x4_2)) = 46 → bk6 (x4_2 + 1) (x3_3 + 1) x2_4 σ5) ∧ (¬ i32 (σ5 54 (i32 x4_2)) = 46 → ((12 ≤ i32 x2_4 → bk6 (x4_2 + 1) (x3_3 + 1) x2_4 σ5) ∧ (i32 x2_4 < 12 → ((7 ≤ i32 x3_3 → bk6 (x4_2 + 1) (x3_3 + 1) x2_4 σ5) ∧ (i32 x3_3 < 7 → (0 ≤ i32 x4_2 ∧ i32 x4_2 < 120) ∧ (0 ≤ i32 ((x2_4 * 7) + x3_3) ∧ i32 ((x2_4 * 7) + x3_3) < 84) ∧ ∀ σ7 : St, σ7 = ss σ5 2 (i32 ((x2_4 * 7) + x3_3)) ((σ5 54 (i32 x4_2)) - 97) → bk6 (x4_2 + 1) (x3_3 + 1) x2_4 σ7))))))) ∧ (i32 (σ5 54 (i32 x4_2)) = 47 → bk6 (x4_2 + 1) 0 (x2_4 + 1) σ5))))) 0 0 0 σ1)

def J_Tape_spellInto_39 (a1 : Int) (Q : St → Prop) (σ4 : St) : Prop :=
  (0 ≤ i32 a1 ∧ i32 a1 < 6) ∧ ∀ σ5 : St, σ5 = ss σ4 4 (i32 a1) (mni (σ4 53 1) 8) → Q σ5
def V_Tape_spellInto (σ : St) (a1 : Int) (Q : St → Prop) : Prop :=
  WL1 (fun (bk3 : Int → St → Prop) (x3_1 : Int) (σ2 : St) => ((i32 (σ2 53 1) ≤ i32 x3_1 → J_Tape_spellInto_39 a1 Q σ2) ∧ (i32 x3_1 < i32 (σ2 53 1) → ((8 ≤ i32 x3_1 → J_Tape_spellInto_39 a1 Q σ2) ∧ (i32 x3_1 < 8 → (0 ≤ i32 x3_1 ∧ i32 x3_1 < 120) ∧ (0 ≤ i32 ((a1 * 8) + x3_1) ∧ i32 ((a1 * 8) + x3_1) < 48) ∧ ∀ σ6 : St, σ6 = ss σ2 3 (i32 ((a1 * 8) + x3_1)) (σ2 54 (i32 x3_1)) → bk3 (x3_1 + 1) σ6))))) 0 σ

def V_bitCount (σ : St) (a1 : Int) (Q : Int → St → Prop) : Prop :=
  ∀ x0_1 : Int, x0_1 = a1 - (lan (lsu a1 1) 6148914691236517205) → ∀ x0_2 : Int, x0_2 = (lan x0_1 3689348814741910323) + (lan (lsu x0_1 2) 3689348814741910323) → ∀ x0_3 : Int, x0_3 = lan (x0_2 + (lsu x0_2 4)) 1085102592571150095 → ∀ x0_4 : Int, x0_4 = x0_3 + (lsu x0_3 8) → ∀ x0_5 : Int, x0_5 = x0_4 + (lsu x0_4 16) → ∀ x0_6 : Int, x0_6 = x0_5 + (lsu x0_5 32) → Q (ian x0_6 127) σ

def V_Ways_bitsOf (σ : St) (a1 : Int) (a2 : Int) (Q : Int → St → Prop) : Prop :=
  (0 ≤ i32 ((a1 * 13) + a2) ∧ i32 ((a1 * 13) + a2) < 52) ∧ Q (σ 28 (i32 ((a1 * 13) + a2))) σ

def V_Ways_countOf (σ : St) (a1 : Int) (Q : Int → St → Prop) : Prop :=
  ((1296 ≤ i32 a1 → Q 0 σ) ∧ (i32 a1 < 1296 → (0 ≤ i32 a1 ∧ i32 a1 < 1296) ∧ Q (σ 24 (i32 a1)) σ))

def V_Ways_onward (σ : St) (a1 : Int) (a2 : Int) (a3 : Int) (a4 : Int) (Q : Int → St → Prop) : Prop :=
  (0 ≤ i32 a1 ∧ i32 a1 < 4) ∧ ((i32 (σ 25 (i32 a1)) ≤ i32 a2 → Q 0 σ) ∧ (i32 a2 < i32 (σ 25 (i32 a1)) → (0 ≤ i32 ((a1 * 12) + a2) ∧ i32 ((a1 * 12) + a2) < 48) ∧ V_Ground_isFree σ (σ 27 (i32 ((a1 * 12) + a2))) a3 (fun (r2 : Int) (σ1 : St) => ((¬ i32 r2 = 0 → (0 ≤ i32 a1 ∧ i32 a1 < 4) ∧ V_Ways_countOf σ1 (a4 + (σ1 26 (i32 a1))) (fun (r4 : Int) (σ3 : St) => Q r4 σ3)) ∧ (i32 r2 = 0 → Q 0 σ1)))))

def V_Ways_reckonState (σ : St) (a1 : Int) (a2 : Int) (a3 : Int) (a4 : Int) (Q : St → Prop) : Prop :=
  ∀ x6_1 : Int, x6_1 = (((a1 * (σ 26 0)) + (a2 * (σ 26 1))) + (a3 * (σ 26 2))) + (a4 * (σ 26 3)) → ((i32 x6_1 < 1296 → V_Ways_bitsOf σ 0 a1 (fun (r3 : Int) (σ2 : St) => V_Ways_bitsOf σ2 1 a2 (fun (r5 : Int) (σ4 : St) => V_Ways_bitsOf σ4 2 a3 (fun (r7 : Int) (σ6 : St) => V_Ways_bitsOf σ6 3 a4 (fun (r9 : Int) (σ8 : St) => ∀ x7_10 : Int, x7_10 = lro (lro (lro r3 r5) r7) r9 → V_bitCount σ8 x7_10 (fun (r12 : Int) (σ11 : St) => ((¬ i32 r12 = i32 (σ11 16 0) → V_Ways_onward σ11 0 a1 x7_10 x6_1 (fun (r14 : Int) (σ13 : St) => V_Ways_onward σ13 1 a2 x7_10 x6_1 (fun (r16 : Int) (σ15 : St) => V_Ways_onward σ15 2 a3 x7_10 x6_1 (fun (r18 : Int) (σ17 : St) => V_Ways_onward σ17 3 a4 x7_10 x6_1 (fun (r20 : Int) (σ19 : St) => (0 ≤ i32 x6_1 ∧ i32 x6_1 < 1296) ∧ ∀ σ21 : St, σ21 = ss σ19 24 (i32 x6_1) (((r14 + r16) + r18) + r20) → Q σ21))))) ∧ (i32 r12 = i32 (σ11 16 0) → (0 ≤ i32 x6_1 ∧ i32 x6_1 < 1296) ∧ ∀ σ22 : St, σ22 = ss σ11 24 (i32 x6_1) 1 → Q σ22)))))))) ∧ (1296 ≤ i32 x6_1 → Q σ))

def V_Ways_sortIntoLines (σ : St) (Q : St → Prop) : Prop :=
  V_fillI 25 4 σ 0 (fun (σ1 : St) => V_fillJ 28 52 σ1 0 (fun (σ2 : St) => WL1 (fun (bk5 : Int → St → Prop) (x2_3 : Int) (σ4 : St) => ((i32 (σ4 16 0) ≤ i32 x2_3 → WL2 (fun (bk9 : Int → Int → St → Prop) (x3_6 : Int) (x2_7 : Int) (σ8 : St) => ((4 ≤ i32 x3_6 → Q σ8) ∧ (i32 x3_6 < 4 → (0 ≤ i32 x3_6 ∧ i32 x3_6 < 4) ∧ ∀ σ10 : St, σ10 = ss σ8 26 (i32 x3_6) x2_7 → (0 ≤ i32 x3_6 ∧ i32 x3_6 < 4) ∧ ∀ x2_11 : Int, x2_11 = x2_7 * ((σ10 25 (i32 x3_6)) + 1) → bk9 (x3_6 + 1) x2_11 σ10))) 0 1 σ4) ∧ (i32 x2_3 < i32 (σ4 16 0) → (0 ≤ i32 x2_3 ∧ i32 x2_3 < 48) ∧ ∀ x3_12 : Int, x3_12 = idv (σ4 18 (i32 x2_3)) 2 → (0 ≤ i32 x3_12 ∧ i32 x3_12 < 4) ∧ ∀ x4_13 : Int, x4_13 = σ4 25 (i32 x3_12) → ((12 ≤ i32 x4_13 → bk5 (x2_3 + 1) σ4) ∧ (i32 x4_13 < 12 → (0 ≤ i32 ((x3_12 * 12) + x4_13) ∧ i32 ((x3_12 * 12) + x4_13) < 48) ∧ ∀ σ14 : St, σ14 = ss σ4 27 (i32 ((x3_12 * 12) + x4_13)) x2_3 → (0 ≤ i32 ((x3_12 * 13) + x4_13) ∧ i32 ((x3_12 * 13) + x4_13) < 52) ∧ (0 ≤ i32 (((x3_12 * 13) + x4_13) + 1) ∧ i32 (((x3_12 * 13) + x4_13) + 1) < 52) ∧ ∀ σ15 : St, σ15 = ss σ14 28 (i32 (((x3_12 * 13) + x4_13) + 1)) (lro (σ14 28 (i32 ((x3_12 * 13) + x4_13))) (lsh 1 x2_3)) → (0 ≤ i32 x3_12 ∧ i32 x3_12 < 4) ∧ ∀ σ16 : St, σ16 = ss σ15 25 (i32 x3_12) (x4_13 + 1) → bk5 (x2_3 + 1) σ16))))) 0 σ2))

def V_Ways_reckon (σ : St) (Q : St → Prop) : Prop :=
  ((i32 (σ 23 0) = 0 → V_Ways_sortIntoLines σ (fun (σ1 : St) => ∀ x2_2 : Int, x2_2 = σ1 25 0 → WL1 (fun (bk5 : Int → St → Prop) (x2_3 : Int) (σ4 : St) => ((i32 x2_3 < 0 → ∀ σ6 : St, σ6 = ss σ4 23 0 1 → Q σ6) ∧ (0 ≤ i32 x2_3 → ∀ x3_7 : Int, x3_7 = σ4 25 1 → WL1 (fun (bk10 : Int → St → Prop) (x3_8 : Int) (σ9 : St) => ((i32 x3_8 < 0 → bk5 (x2_3 + (-1)) σ9) ∧ (0 ≤ i32 x3_8 → ∀ x4_11 : Int, x4_11 = σ9 25 2 → WL1 (fun (bk14 : Int → St → Prop) (x4_12 : Int) (σ13 : St) => ((i32 x4_12 < 0 → bk10 (x3_8 + (-1)) σ13) ∧ (0 ≤ i32 x4_12 → ∀ x5_15 : Int, x5_15 = σ13 25 3 → WL1 (fun (bk18 : Int → St → Prop) (x5_16 : Int) (σ17 : St) => ((i32 x5_16 < 0 → bk14 (x4_12 + (-1)) σ17) ∧ (0 ≤ i32 x5_16 → V_Ways_reckonState σ17 x2_3 x3_8 x4_12 x5_16 (fun (σ19 : St) => bk18 (x5_16 + (-1)) σ19)))) x5_15 σ13))) x4_11 σ9))) x3_7 σ4))) x2_2 σ1)) ∧ (¬ i32 (σ 23 0) = 0 → Q σ))

def V_Ways_strideOf (σ : St) (a1 : Int) (Q : Int → St → Prop) : Prop :=
  (0 ≤ i32 a1 ∧ i32 a1 < 48) ∧ (0 ≤ i32 (idv (σ 18 (i32 a1)) 2) ∧ i32 (idv (σ 18 (i32 a1)) 2) < 4) ∧ Q (σ 26 (i32 (idv (σ 18 (i32 a1)) 2))) σ

def J_Ways_stitchOf_89 (x11_1 : Int) (x9_3 : Int) (x7_4 : Int) (bk7 : Int → Int → Int → Int → Int → St → Prop) (x5_10 : Int) (x10_13 : Int) (σ14 : St) : Prop :=
  ∀ x7_15 : Int, x7_15 = lro x7_4 (lsh 1 x10_13) → V_Ways_strideOf σ14 x10_13 (fun (r17 : Int) (σ16 : St) => ∀ x9_18 : Int, x9_18 = x9_3 + r17 → bk7 (x11_1 + 1) x10_13 x9_18 x7_15 x5_10 σ16)
def V_Ways_stitchOf (σ : St) (a1 : Int) (a2 : Int) (Q : Int → St → Prop) : Prop :=
  WL5 (fun (bk7 : Int → Int → Int → Int → Int → St → Prop) (x11_1 : Int) (x10_2 : Int) (x9_3 : Int) (x7_4 : Int) (x5_5 : Int) (σ6 : St) => ((i32 a2 < i32 x11_1 → Q x10_2 σ6) ∧ (i32 x11_1 ≤ i32 a2 → WL3 (fun (bk12 : Int → Int → Int → St → Prop) (x12_8 : Int) (x10_9 : Int) (x5_10 : Int) (σ11 : St) => ((i32 (σ11 16 0) ≤ i32 x12_8 → J_Ways_stitchOf_89 x11_1 x9_3 x7_4 bk7 x5_10 x10_9 σ11) ∧ (i32 x12_8 < i32 (σ11 16 0) → V_Ground_isFree σ11 x12_8 x7_4 (fun (r20 : Int) (σ19 : St) => ((i32 r20 = 0 → bk12 (x12_8 + 1) x10_9 x5_10 σ19) ∧ (¬ i32 r20 = 0 → V_Ways_strideOf σ19 x12_8 (fun (r22 : Int) (σ21 : St) => V_Ways_countOf σ21 (x9_3 + r22) (fun (r24 : Int) (σ23 : St) => ((i64 r24 ≤ i64 x5_10 → ∀ x5_25 : Int, x5_25 = x5_10 - r24 → bk12 (x12_8 + 1) x12_8 x5_25 σ23) ∧ (i64 x5_10 < i64 r24 → J_Ways_stitchOf_89 x11_1 x9_3 x7_4 bk7 x5_10 x12_8 σ23)))))))))) 0 x10_2 x5_5 σ6))) 0 0 0 0 a1 σ

def V_Ways_numberOf (sh : Nat) (σ : St) (Q : Int → St → Prop) : Prop :=
  ((i32 (σ sh 1) = i32 (σ 16 0) → WL4 (fun (bk6 : Int → Int → Int → Int → St → Prop) (x8_1 : Int) (x7_2 : Int) (x5_3 : Int) (x3_4 : Int) (σ5 : St) => ((i32 (σ5 sh 1) ≤ i32 x8_1 → Q x3_4 σ5) ∧ (i32 x8_1 < i32 (σ5 sh 1) → (0 ≤ i32 x8_1 ∧ i32 x8_1 < 60) ∧ ∀ x9_7 : Int, x9_7 = σ5 (sh + 1) (i32 x8_1) → ((i64 x9_7 < 0 → Q (-1) σ5) ∧ (0 ≤ i64 x9_7 → ((i32 (σ5 16 0) ≤ i64 x9_7 → Q (-1) σ5) ∧ (i64 x9_7 < i32 (σ5 16 0) → V_Ground_isFree σ5 x9_7 x5_3 (fun (r9 : Int) (σ8 : St) => ((¬ i32 r9 = 0 → WL2 (fun (bk13 : Int → Int → St → Prop) (x12_10 : Int) (x3_11 : Int) (σ12 : St) => ((i32 x9_7 ≤ i32 x12_10 → ∀ x5_14 : Int, x5_14 = lro x5_3 (lsh 1 x9_7) → V_Ways_strideOf σ12 x9_7 (fun (r16 : Int) (σ15 : St) => ∀ x7_17 : Int, x7_17 = x7_2 + r16 → bk6 (x8_1 + 1) x7_17 x5_14 x3_11 σ15)) ∧ (i32 x12_10 < i32 x9_7 → V_Ground_isFree σ12 x12_10 x5_3 (fun (r19 : Int) (σ18 : St) => ((i32 r19 = 0 → bk13 (x12_10 + 1) x3_11 σ18) ∧ (¬ i32 r19 = 0 → V_Ways_strideOf σ18 x12_10 (fun (r21 : Int) (σ20 : St) => V_Ways_countOf σ20 (x7_2 + r21) (fun (r23 : Int) (σ22 : St) => ∀ x3_24 : Int, x3_24 = x3_11 + r23 → bk13 (x12_10 + 1) x3_24 σ22)))))))) 0 x3_4 σ8) ∧ (i32 r9 = 0 → Q (-1) σ8)))))))))) 0 0 0 0 σ) ∧ (¬ i32 (σ sh 1) = i32 (σ 16 0) → Q (-1) σ))

def V_Weave_sendHome (o : Nat) (σ : St) (Q : St → Prop) : Prop :=
  WL1 (fun (bk3 : Int → St → Prop) (x1_1 : Int) (σ2 : St) => ((16 ≤ i32 x1_1 → Q σ2) ∧ (i32 x1_1 < 16 → (0 ≤ i32 x1_1 ∧ i32 x1_1 < 16) ∧ ∀ σ4 : St, σ4 = ss σ2 (o + 1) (i32 x1_1) x1_1 → (0 ≤ i32 x1_1 ∧ i32 x1_1 < 16) ∧ ∀ σ5 : St, σ5 = ss σ4 (o + 2) (i32 x1_1) x1_1 → bk3 (x1_1 + 1) σ5))) 0 σ

def V_Weave_clear (o : Nat) (σ : St) (Q : St → Prop) : Prop :=
  V_Weave_sendHome o σ (fun (σ1 : St) => V_fillI (o + 3) 16 σ1 0 (fun (σ2 : St) => V_fillI (o + 4) 16 σ2 0 (fun (σ3 : St) => V_fillI (o + 5) 16 σ3 0 (fun (σ4 : St) => V_fillI (o + 6) 16 σ4 (-1) (fun (σ5 : St) => V_fillI (o + 7) 16 σ5 0 (fun (σ6 : St) => V_fillI (o + 8) 256 σ6 0 (fun (σ7 : St) => V_Heap_clear (o + 9) σ7 (fun (σ8 : St) => ∀ σ9 : St, σ9 = ss σ8 o 9 0 → Q σ9))))))))

def V_Weave_noteSide (o : Nat) (σ : St) (a1 : Int) (a2 : Int) (Q : St → Prop) : Prop :=
  (0 ≤ i32 a1 ∧ i32 a1 < 16) ∧ ((¬ i32 (σ (o + 7) (i32 a1)) = i32 a2 → (0 ≤ i32 a1 ∧ i32 a1 < 16) ∧ ∀ σ1 : St, σ1 = ss σ (o + 7) (i32 a1) a2 → Q σ1) ∧ (i32 (σ (o + 7) (i32 a1)) = i32 a2 → (0 ≤ i32 a1 ∧ i32 a1 < 16) ∧ ((0 ≤ i32 (σ (o + 6) (i32 a1)) → (0 ≤ i32 a1 ∧ i32 a1 < 16) ∧ ∀ σ2 : St, σ2 = ss σ (o + 7) (i32 a1) a2 → Q σ2) ∧ (i32 (σ (o + 6) (i32 a1)) < 0 → (0 ≤ i32 a1 ∧ i32 a1 < 16) ∧ (0 ≤ i32 a1 ∧ i32 a1 < 16) ∧ (0 ≤ i32 a1 ∧ i32 a1 < 16) ∧ ∀ σ3 : St, σ3 = ss σ (o + 6) (i32 a1) ((σ (o + 4) (i32 a1)) + (σ (o + 5) (i32 a1))) → (0 ≤ i32 a1 ∧ i32 a1 < 16) ∧ ∀ σ4 : St, σ4 = ss σ3 (o + 7) (i32 a1) a2 → Q σ4))))

def V_Weave_pass (o : Nat) (σ : St) (a1 : Int) (a2 : Int) (Q : St → Prop) : Prop :=
  V_Weave_noteSide o σ a1 1 (fun (σ1 : St) => V_Weave_noteSide o σ1 a2 2 (fun (σ2 : St) => (0 ≤ i32 a1 ∧ i32 a1 < 16) ∧ (0 ≤ i32 a1 ∧ i32 a1 < 16) ∧ ∀ σ3 : St, σ3 = ss σ2 (o + 4) (i32 a1) ((σ2 (o + 4) (i32 a1)) + 1) → (0 ≤ i32 a2 ∧ i32 a2 < 16) ∧ (0 ≤ i32 a2 ∧ i32 a2 < 16) ∧ ∀ σ4 : St, σ4 = ss σ3 (o + 5) (i32 a2) ((σ3 (o + 5) (i32 a2)) + 1) → (0 ≤ i32 a1 ∧ i32 a1 < 16) ∧ (0 ≤ i32 a1 ∧ i32 a1 < 16) ∧ ∀ σ5 : St, σ5 = ss σ4 (o + 3) (i32 a1) ((σ4 (o + 3) (i32 a1)) + 2) → (0 ≤ i32 a2 ∧ i32 a2 < 16) ∧ (0 ≤ i32 a2 ∧ i32 a2 < 16) ∧ ∀ σ6 : St, σ6 = ss σ5 (o + 3) (i32 a2) ((σ5 (o + 3) (i32 a2)) + 1) → (0 ≤ i32 ((a1 * 16) + a2) ∧ i32 ((a1 * 16) + a2) < 256) ∧ (0 ≤ i32 ((a1 * 16) + a2) ∧ i32 ((a1 * 16) + a2) < 256) ∧ ∀ σ7 : St, σ7 = ss σ6 (o + 8) (i32 ((a1 * 16) + a2)) ((σ6 (o + 8) (i32 ((a1 * 16) + a2))) + 1) → Q σ7))

def J_Weave_cross_74 (o : Nat) (a1 : Int) (a2 : Int) (Q : St → Prop) (y1_7 : Int) (y2_9 : Int) (σ10 : St) : Prop :=
  V_Weave_pass o σ10 y1_7 y2_9 (fun (σ11 : St) => V_Heap_add (o + 9) σ11 a1 a2 (fun (σ12 : St) => ∀ σ13 : St, σ13 = ss σ12 o 9 ((σ12 o 9) + 1) → Q σ13))
def J_Weave_cross_63 (o : Nat) (a1 : Int) (a2 : Int) (Q : St → Prop) (x3_1 : Int) (x4_2 : Int) (y1_7 : Int) (σ8 : St) : Prop :=
  ((¬ i32 a2 = 1 → J_Weave_cross_74 o a1 a2 Q y1_7 x3_1 σ8) ∧ (i32 a2 = 1 → J_Weave_cross_74 o a1 a2 Q y1_7 x4_2 σ8))
def V_Weave_cross (o : Nat) (σ : St) (a1 : Int) (a2 : Int) (Q : St → Prop) : Prop :=
  (0 ≤ i32 a1 ∧ i32 a1 < 16) ∧ ∀ x3_1 : Int, x3_1 = σ (o + 1) (i32 a1) → (0 ≤ i32 (a1 + 1) ∧ i32 (a1 + 1) < 16) ∧ ∀ x4_2 : Int, x4_2 = σ (o + 1) (i32 (a1 + 1)) → (0 ≤ i32 a1 ∧ i32 a1 < 16) ∧ ∀ σ3 : St, σ3 = ss σ (o + 1) (i32 a1) x4_2 → (0 ≤ i32 (a1 + 1) ∧ i32 (a1 + 1) < 16) ∧ ∀ σ4 : St, σ4 = ss σ3 (o + 1) (i32 (a1 + 1)) x3_1 → (0 ≤ i32 x4_2 ∧ i32 x4_2 < 16) ∧ ∀ σ5 : St, σ5 = ss σ4 (o + 2) (i32 x4_2) a1 → (0 ≤ i32 x3_1 ∧ i32 x3_1 < 16) ∧ ∀ σ6 : St, σ6 = ss σ5 (o + 2) (i32 x3_1) (a1 + 1) → ((¬ i32 a2 = 1 → J_Weave_cross_63 o a1 a2 Q x3_1 x4_2 x4_2 σ6) ∧ (i32 a2 = 1 → J_Weave_cross_63 o a1 a2 Q x3_1 x4_2 x3_1 σ6))

def J_Weave_make_100 (o : Nat) (a2 : Int) (x4_5 : Int) (bk7 : Int → St → Prop) (y0_9 : Int) (σ11 : St) : Prop :=
  V_Weave_cross o σ11 ((2 * a2) + 1) y0_9 (fun (σ12 : St) => bk7 (x4_5 + 1) σ12)
def J_Weave_make_84 (o : Nat) (a2 : Int) (x4_5 : Int) (bk7 : Int → St → Prop) (x5_8 : Int) (y0_9 : Int) (σ10 : St) : Prop :=
  ((i32 x5_8 = 99 → J_Weave_make_100 o a2 x4_5 bk7 y0_9 σ10) ∧ (¬ i32 x5_8 = 99 → ((¬ i32 x5_8 = 67 → V_Weave_cross o σ10 (2 * a2) y0_9 (fun (σ13 : St) => V_Weave_cross o σ13 ((2 * a2) + 2) y0_9 (fun (σ14 : St) => bk7 (x4_5 + 1) σ14))) ∧ (i32 x5_8 = 67 → J_Weave_make_100 o a2 x4_5 bk7 y0_9 σ10))))
def J_Weave_make_79 (o : Nat) (a2 : Int) (x4_5 : Int) (bk7 : Int → St → Prop) (x5_8 : Int) (σ15 : St) : Prop :=
  J_Weave_make_84 o a2 x4_5 bk7 x5_8 1 σ15
def V_Weave_make (o : Nat) (σ : St) (a1 : Int) (a2 : Int) (Q : St → Prop) : Prop :=
  ∀ x4_1 : Int, x4_1 = 2 * a2 → WL1 (fun (bk4 : Int → St → Prop) (x4_2 : Int) (σ3 : St) => ((i32 ((2 * a2) + 4) ≤ i32 x4_2 → WL1 (fun (bk7 : Int → St → Prop) (x4_5 : Int) (σ6 : St) => (0 ≤ i32 a1 ∧ i32 a1 < 6) ∧ ((i32 (σ6 4 (i32 a1)) ≤ i32 x4_5 → Q σ6) ∧ (i32 x4_5 < i32 (σ6 4 (i32 a1)) → (0 ≤ i32 ((a1 * 8) + x4_5) ∧ i32 ((a1 * 8) + x4_5) < 48) ∧ ∀ x5_8 : Int, x5_8 = σ6 3 (i32 ((a1 * 8) + x4_5)) → ((i32 x5_8 = 99 → J_Weave_make_79 o a2 x4_5 bk7 x5_8 σ6) ∧ (¬ i32 x5_8 = 99 → ((¬ i32 x5_8 = 84 → J_Weave_make_84 o a2 x4_5 bk7 x5_8 2 σ6) ∧ (i32 x5_8 = 84 → J_Weave_make_79 o a2 x4_5 bk7 x5_8 σ6))))))) 0 σ3) ∧ (i32 x4_2 < i32 ((2 * a2) + 4) → (0 ≤ i32 x4_2 ∧ i32 x4_2 < 16) ∧ (0 ≤ i32 (σ3 (o + 1) (i32 x4_2)) ∧ i32 (σ3 (o + 1) (i32 x4_2)) < 16) ∧ (0 ≤ i32 (σ3 (o + 1) (i32 x4_2)) ∧ i32 (σ3 (o + 1) (i32 x4_2)) < 16) ∧ ∀ σ16 : St, σ16 = ss σ3 (o + 3) (i32 (σ3 (o + 1) (i32 x4_2))) ((σ3 (o + 3) (i32 (σ3 (o + 1) (i32 x4_2)))) + 1) → bk4 (x4_2 + 1) σ16))) x4_1 σ

def V_Weave_haveCrossed (o : Nat) (σ : St) (a1 : Int) (a2 : Int) (Q : Int → St → Prop) : Prop :=
  (0 ≤ i32 ((a1 * 16) + a2) ∧ i32 ((a1 * 16) + a2) < 256) ∧ (0 ≤ i32 ((a2 * 16) + a1) ∧ i32 ((a2 * 16) + a1) < 256) ∧ ((i32 ((σ (o + 8) (i32 ((a1 * 16) + a2))) + (σ (o + 8) (i32 ((a2 * 16) + a1)))) ≤ 0 → Q 0 σ) ∧ (0 < i32 ((σ (o + 8) (i32 ((a1 * 16) + a2))) + (σ (o + 8) (i32 ((a2 * 16) + a1)))) → Q 1 σ))

def V_Weave_leastLacking (o : Nat) (σ : St) (Q : Int → St → Prop) : Prop :=
  WL1 (fun (bk3 : Int → St → Prop) (x2_1 : Int) (σ2 : St) => ((16 ≤ i32 x2_1 → Q (-1) σ2) ∧ (i32 x2_1 < 16 → ((16 ≤ i32 x2_1 → Q (-1) σ2) ∧ (i32 x2_1 < 16 → (0 ≤ i32 x2_1 ∧ i32 x2_1 < 16) ∧ (0 ≤ i32 x2_1 ∧ i32 x2_1 < 16) ∧ ((i32 (σ2 (o + 3) (i32 x2_1)) ≤ i32 (σ2 5 (i32 x2_1)) → bk3 (x2_1 + 1) σ2) ∧ (i32 (σ2 5 (i32 x2_1)) < i32 (σ2 (o + 3) (i32 x2_1)) → Q x2_1 σ2))))))) 0 σ

def V_Weave_countAtHome (o : Nat) (σ : St) (a1 : Int) (Q : Int → St → Prop) : Prop :=
  WL2 (fun (bk4 : Int → Int → St → Prop) (x3_1 : Int) (x2_2 : Int) (σ3 : St) => ((i32 a1 ≤ i32 x3_1 → Q x2_2 σ3) ∧ (i32 x3_1 < i32 a1 → ((16 ≤ i32 x3_1 → Q x2_2 σ3) ∧ (i32 x3_1 < 16 → (0 ≤ i32 x3_1 ∧ i32 x3_1 < 16) ∧ ((¬ i32 (σ3 (o + 2) (i32 x3_1)) = i32 x3_1 → bk4 (x3_1 + 1) x2_2 σ3) ∧ (i32 (σ3 (o + 2) (i32 x3_1)) = i32 x3_1 → bk4 (x3_1 + 1) (x2_2 + 1) σ3))))))) 0 0 σ

def V_Weave_turnsOf (o : Nat) (σ : St) (a1 : Int) (Q : Int → St → Prop) : Prop :=
  WL2 (fun (bk4 : Int → Int → St → Prop) (x3_1 : Int) (x2_2 : Int) (σ3 : St) => ((16 < i32 x3_1 → Q 16 σ3) ∧ (i32 x3_1 ≤ 16 → (0 ≤ i32 x2_2 ∧ i32 x2_2 < 16) ∧ ∀ x2_5 : Int, x2_5 = σ3 (o + 2) (i32 x2_2) → ((¬ i32 x2_5 = i32 a1 → bk4 (x3_1 + 1) x2_5 σ3) ∧ (i32 x2_5 = i32 a1 → Q x3_1 σ3))))) 1 a1 σ

def V_Weave_leastCommonMultiple (σ : St) (a1 : Int) (a2 : Int) (Q : Int → St → Prop) : Prop :=
  WL1 (fun (bk3 : Int → St → Prop) (x3_1 : Int) (σ2 : St) => ((i32 a2 ≤ i32 x3_1 → Q (a1 * (i32 a2)) σ2) ∧ (i32 x3_1 < i32 a2 → (¬ i64 (i32 a2) = 0) ∧ ((¬ i64 (lrm (a1 * (i32 x3_1)) (i32 a2)) = 0 → bk3 (x3_1 + 1) σ2) ∧ (i64 (lrm (a1 * (i32 x3_1)) (i32 a2)) = 0 → Q (a1 * (i32 x3_1)) σ2))))) 1 σ

def V_Weave_commonTurns (o : Nat) (σ : St) (Q : Int → St → Prop) : Prop :=
  WL2 (fun (bk4 : Int → Int → St → Prop) (x3_1 : Int) (x1_2 : Int) (σ3 : St) => ((16 ≤ i32 x3_1 → Q x1_2 σ3) ∧ (i32 x3_1 < 16 → V_Weave_turnsOf o σ3 x3_1 (fun (r6 : Int) (σ5 : St) => V_Weave_leastCommonMultiple σ5 x1_2 r6 (fun (r8 : Int) (σ7 : St) => bk4 (x3_1 + 1) r8 σ7))))) 0 1 σ

def V_P_regard (σ : St) (Q : St → Prop) : Prop :=
  V_Ground_gather σ (fun (σ1 : St) => ∀ σ2 : St, σ2 = ss σ1 23 0 0 → ∀ σ3 : St, σ3 = ss σ2 0 8 (-1) → Q σ3)

def V_P_beginAnew (σ : St) (Q : St → Prop) : Prop :=
  ∀ σ1 : St, σ1 = ss σ 1 6 0 → V_Weave_clear 29 σ1 (fun (σ2 : St) => ∀ σ3 : St, σ3 = ss σ2 0 9 0 → V_P_regard σ3 (fun (σ4 : St) => Q σ4))

def V_P_fail (σ : St) (a1 : Int) (Q : Int → St → Prop) : Prop :=
  (0 ≤ i32 a1 ∧ i32 a1 < 8) ∧ (0 ≤ i32 a1 ∧ i32 a1 < 8) ∧ ∀ σ1 : St, σ1 = ss σ 56 (i32 a1) ((σ 56 (i32 a1)) + 1) → Q ((-1000000000) - a1) σ1

def V_P_pairs (σ : St) (a1 : Int) (Q : Int → St → Prop) : Prop :=
  ((i32 a1 < 2 → V_P_fail σ 1 (fun (r2 : Int) (σ1 : St) => Q r2 σ1)) ∧ (2 ≤ i32 a1 → ((i32 a1 ≤ 8 → ∀ x2_3 : Int, x2_3 = σ 1 0 → ∀ σ4 : St, σ4 = ss σ 1 0 a1 → V_fillI 2 84 σ4 (-1) (fun (σ5 : St) => V_P_beginAnew σ5 (fun (σ6 : St) => Q x2_3 σ6))) ∧ (8 < i32 a1 → V_P_fail σ 1 (fun (r8 : Int) (σ7 : St) => Q r8 σ7)))))

def V_P_isCell (σ : St) (a1 : Int) (a2 : Int) (Q : Int → St → Prop) : Prop :=
  ((i32 a1 < 0 → Q 0 σ) ∧ (0 ≤ i32 a1 → ((12 ≤ i32 a1 → Q 0 σ) ∧ (i32 a1 < 12 → ((i32 a2 < 0 → Q 0 σ) ∧ (0 ≤ i32 a2 → ((i32 ((σ 1 0) - 1) ≤ i32 a2 → Q 0 σ) ∧ (i32 a2 < i32 ((σ 1 0) - 1) → Q 1 σ))))))))

def V_P_holds (σ : St) (a1 : Int) (a2 : Int) (Q : Int → St → Prop) : Prop :=
  V_P_isCell σ a1 a2 (fun (r2 : Int) (σ1 : St) => ((i32 r2 = 0 → Q 0 σ1) ∧ (¬ i32 r2 = 0 → (0 ≤ i32 ((a1 * 7) + a2) ∧ i32 ((a1 * 7) + a2) < 84) ∧ ((i32 (σ1 2 (i32 ((a1 * 7) + a2))) = (-1) → Q 0 σ1) ∧ (¬ i32 (σ1 2 (i32 ((a1 * 7) + a2))) = (-1) → Q 1 σ1)))))

def J_P_lay_59 (a1 : Int) (a2 : Int) (a3 : Int) (Q : Int → St → Prop) (σ7 : St) : Prop :=
  (0 ≤ i32 ((a1 * 7) + a2) ∧ i32 ((a1 * 7) + a2) < 84) ∧ ∀ x4_8 : Int, x4_8 = σ7 2 (i32 ((a1 * 7) + a2)) → (0 ≤ i32 ((a1 * 7) + a2) ∧ i32 ((a1 * 7) + a2) < 84) ∧ ∀ σ9 : St, σ9 = ss σ7 2 (i32 ((a1 * 7) + a2)) a3 → V_P_beginAnew σ9 (fun (σ10 : St) => Q x4_8 σ10)
def V_P_lay (σ : St) (a1 : Int) (a2 : Int) (a3 : Int) (Q : Int → St → Prop) : Prop :=
  V_P_isCell σ a1 a2 (fun (r2 : Int) (σ1 : St) => ((i32 r2 = 0 → V_P_fail σ1 1 (fun (r4 : Int) (σ3 : St) => Q r4 σ3)) ∧ (¬ i32 r2 = 0 → ((i32 a3 < (-1) → V_P_fail σ1 1 (fun (r6 : Int) (σ5 : St) => Q r6 σ5)) ∧ ((-1) ≤ i32 a3 → ((i32 a3 < 6 → ((i32 a3 = (-1) → J_P_lay_59 a1 a2 a3 Q σ1) ∧ (¬ i32 a3 = (-1) → V_P_holds σ1 a1 (a2 - 1) (fun (r12 : Int) (σ11 : St) => ((¬ i32 r12 = 0 → V_P_fail σ11 3 (fun (r14 : Int) (σ13 : St) => Q r14 σ13)) ∧ (i32 r12 = 0 → V_P_holds σ11 a1 (a2 + 1) (fun (r16 : Int) (σ15 : St) => ((i32 r16 = 0 → J_P_lay_59 a1 a2 a3 Q σ15) ∧ (¬ i32 r16 = 0 → V_P_fail σ15 3 (fun (r18 : Int) (σ17 : St) => Q r18 σ17)))))))))) ∧ (6 ≤ i32 a3 → V_P_fail σ1 1 (fun (r20 : Int) (σ19 : St) => Q r20 σ19))))))))

def V_P_look (σ : St) (a1 : Int) (a2 : Int) (Q : Int → St → Prop) : Prop :=
  V_P_isCell σ a1 a2 (fun (r2 : Int) (σ1 : St) => ((¬ i32 r2 = 0 → (0 ≤ i32 ((a1 * 7) + a2) ∧ i32 ((a1 * 7) + a2) < 84) ∧ Q (σ1 2 (i32 ((a1 * 7) + a2))) σ1) ∧ (i32 r2 = 0 → V_P_fail σ1 1 (fun (r4 : Int) (σ3 : St) => Q r4 σ3))))

def V_P_feed (σ : St) (a1 : Int) (Q : Int → St → Prop) : Prop :=
  ((i32 a1 < 0 → V_P_fail σ 1 (fun (r2 : Int) (σ1 : St) => Q r2 σ1)) ∧ (0 ≤ i32 a1 → ((i32 a1 ≤ 255 → ((i32 (σ 53 1) < 120 → (0 ≤ i32 (σ 53 1) ∧ i32 (σ 53 1) < 120) ∧ ∀ σ3 : St, σ3 = ss σ 54 (i32 (σ 53 1)) a1 → ∀ σ4 : St, σ4 = ss σ3 53 1 ((σ3 53 1) + 1) → Q (σ4 53 1) σ4) ∧ (120 ≤ i32 (σ 53 1) → V_P_fail σ 4 (fun (r6 : Int) (σ5 : St) => Q r6 σ5)))) ∧ (255 < i32 a1 → V_P_fail σ 1 (fun (r8 : Int) (σ7 : St) => Q r8 σ7)))))

def J_P_read_37 (Q : Int → St → Prop) (r2 : Int) (σ3 : St) : Prop :=
  ∀ σ4 : St, σ4 = ss σ3 53 1 0 → ((¬ i32 r2 = (-1) → Q ((-10) - r2) σ4) ∧ (i32 r2 = (-1) → Q (σ4 16 0) σ4))
def V_P_read (σ : St) (Q : Int → St → Prop) : Prop :=
  V_Tape_prickingFault σ ((σ 1 0) - 1) (fun (r2 : Int) (σ1 : St) => ((¬ i32 r2 = (-1) → J_P_read_37 Q r2 σ1) ∧ (i32 r2 = (-1) → V_Tape_prickInto σ1 (fun (σ5 : St) => V_P_beginAnew σ5 (fun (σ6 : St) => J_P_read_37 Q r2 σ6)))))

def V_P_isKind (σ : St) (a1 : Int) (Q : Int → St → Prop) : Prop :=
  ((i32 a1 < 0 → Q 0 σ) ∧ (0 ≤ i32 a1 → ((6 ≤ i32 a1 → Q 0 σ) ∧ (i32 a1 < 6 → Q 1 σ))))

def J_P_spell_42 (a1 : Int) (Q : Int → St → Prop) (r4 : Int) (σ5 : St) : Prop :=
  ∀ σ6 : St, σ6 = ss σ5 53 1 0 → ((¬ i32 r4 = (-1) → Q ((-10) - r4) σ6) ∧ (i32 r4 = (-1) → (0 ≤ i32 a1 ∧ i32 a1 < 6) ∧ Q (σ6 4 (i32 a1)) σ6))
def V_P_spell (σ : St) (a1 : Int) (Q : Int → St → Prop) : Prop :=
  V_P_isKind σ a1 (fun (r2 : Int) (σ1 : St) => ((¬ i32 r2 = 0 → V_Tape_wordFault σ1 (fun (r4 : Int) (σ3 : St) => ((¬ i32 r4 = (-1) → J_P_spell_42 a1 Q r4 σ3) ∧ (i32 r4 = (-1) → V_Tape_spellInto σ3 a1 (fun (σ7 : St) => V_P_beginAnew σ7 (fun (σ8 : St) => J_P_spell_42 a1 Q r4 σ8)))))) ∧ (i32 r2 = 0 → V_P_fail σ1 1 (fun (r10 : Int) (σ9 : St) => Q r10 σ9))))

def V_P_thinkWord (σ : St) (a1 : Int) (Q : St → Prop) : Prop :=
  V_Weave_clear 41 σ (fun (σ1 : St) => V_Weave_make 41 σ1 a1 0 (fun (σ2 : St) => ∀ σ3 : St, σ3 = ss σ2 0 8 (-1) → Q σ3))

def V_P_word (σ : St) (a1 : Int) (a2 : Int) (Q : Int → St → Prop) : Prop :=
  V_P_isKind σ a1 (fun (r2 : Int) (σ1 : St) => ((i32 r2 = 0 → V_P_fail σ1 1 (fun (r4 : Int) (σ3 : St) => Q r4 σ3)) ∧ (¬ i32 r2 = 0 → ((i32 a2 < 0 → V_P_fail σ1 1 (fun (r6 : Int) (σ5 : St) => Q r6 σ5)) ∧ (0 ≤ i32 a2 → ((i32 a2 ≤ 7 → ((¬ i32 a2 = 0 → V_P_thinkWord σ1 a1 (fun (σ7 : St) => ((¬ i32 a2 = 1 → ((¬ i32 a2 = 2 → ((¬ i32 a2 = 3 → (0 ≤ i32 (a2 - 4) ∧ i32 (a2 - 4) < 16) ∧ Q (σ7 43 (i32 (a2 - 4))) σ7) ∧ (i32 a2 = 3 → V_Weave_commonTurns 41 σ7 (fun (r9 : Int) (σ8 : St) => Q r9 σ8)))) ∧ (i32 a2 = 2 → Q (σ7 50 0) σ7))) ∧ (i32 a2 = 1 → Q (σ7 41 9) σ7)))) ∧ (i32 a2 = 0 → (0 ≤ i32 a1 ∧ i32 a1 < 6) ∧ Q (σ1 4 (i32 a1)) σ1))) ∧ (7 < i32 a2 → V_P_fail σ1 1 (fun (r11 : Int) (σ10 : St) => Q r11 σ10))))))))

def V_P_letter (σ : St) (a1 : Int) (a2 : Int) (Q : Int → St → Prop) : Prop :=
  V_P_isKind σ a1 (fun (r2 : Int) (σ1 : St) => ((i32 r2 = 0 → V_P_fail σ1 1 (fun (r4 : Int) (σ3 : St) => Q r4 σ3)) ∧ (¬ i32 r2 = 0 → ((i32 a2 < 0 → V_P_fail σ1 1 (fun (r6 : Int) (σ5 : St) => Q r6 σ5)) ∧ (0 ≤ i32 a2 → (0 ≤ i32 a1 ∧ i32 a1 < 6) ∧ ((i32 a2 < i32 (σ1 4 (i32 a1)) → (0 ≤ i32 ((a1 * 8) + a2) ∧ i32 ((a1 * 8) + a2) < 48) ∧ Q (σ1 3 (i32 ((a1 * 8) + a2))) σ1) ∧ (i32 (σ1 4 (i32 a1)) ≤ i32 a2 → V_P_fail σ1 1 (fun (r8 : Int) (σ7 : St) => Q r8 σ7))))))))

def V_P_noneIfBelow0 (σ : St) (a1 : Int) (Q : Int → St → Prop) : Prop :=
  ((0 ≤ i32 a1 → Q a1 σ) ∧ (i32 a1 < 0 → V_P_fail σ 2 (fun (r2 : Int) (σ1 : St) => Q r2 σ1)))

def V_P_stitches (σ : St) (a1 : Int) (Q : Int → St → Prop) : Prop :=
  ((i32 a1 = 0 → Q (σ 16 0) σ) ∧ (i32 a1 = 1 → Q (σ 16 1) σ) ∧ (i32 a1 = 2 → V_Ground_longestChain σ (fun (r2 : Int) (σ1 : St) => Q r2 σ1)) ∧ (i32 a1 = 3 → V_Ground_widest σ (fun (r4 : Int) (σ3 : St) => Q r4 σ3)) ∧ (i32 a1 = 4 → V_Ground_countFree σ (σ 0 9) (fun (r6 : Int) (σ5 : St) => Q r6 σ5)) ∧ (i32 a1 = 5 → Q (σ 1 6) σ) ∧ (i32 a1 = 6 → V_Ground_leastFree σ (σ 0 9) (fun (r8 : Int) (σ7 : St) => V_P_noneIfBelow0 σ7 r8 (fun (r10 : Int) (σ9 : St) => Q r10 σ9))) ∧ ((i32 a1 < 0 ∨ 6 < i32 a1) → V_P_fail σ 1 (fun (r12 : Int) (σ11 : St) => Q r12 σ11)))

def V_P_isStitch (σ : St) (a1 : Int) (Q : Int → St → Prop) : Prop :=
  ((i64 a1 < 0 → Q 0 σ) ∧ (0 ≤ i64 a1 → ((i32 (σ 16 0) ≤ i64 a1 → Q 0 σ) ∧ (i64 a1 < i32 (σ 16 0) → Q 1 σ))))

def V_P_stitch (σ : St) (a1 : Int) (a2 : Int) (Q : Int → St → Prop) : Prop :=
  V_P_isStitch σ (i32 a1) (fun (r2 : Int) (σ1 : St) => ((¬ i32 r2 = 0 → ((i32 a2 = 0 → (0 ≤ i32 a1 ∧ i32 a1 < 48) ∧ Q (σ1 17 (i32 a1)) σ1) ∧ (i32 a2 = 1 → (0 ≤ i32 a1 ∧ i32 a1 < 48) ∧ Q (σ1 18 (i32 a1)) σ1) ∧ (i32 a2 = 2 → (0 ≤ i32 a1 ∧ i32 a1 < 48) ∧ Q (σ1 19 (i32 a1)) σ1) ∧ (i32 a2 = 3 → (0 ≤ i32 a1 ∧ i32 a1 < 48) ∧ Q (σ1 20 (i32 a1)) σ1) ∧ (i32 a2 = 4 → (0 ≤ i32 a1 ∧ i32 a1 < 48) ∧ V_bitCount σ1 (σ1 21 (i32 a1)) (fun (r4 : Int) (σ3 : St) => Q r4 σ3)) ∧ (i32 a2 = 5 → V_Ground_countBehind σ1 a1 (fun (r6 : Int) (σ5 : St) => Q r6 σ5)) ∧ (i32 a2 = 6 → ((¬ i64 (lan (lsr (σ1 0 9) a1) 1) = 1 → Q 0 σ1) ∧ (i64 (lan (lsr (σ1 0 9) a1) 1) = 1 → Q 1 σ1))) ∧ (i32 a2 = 7 → V_Ground_isFree σ1 a1 (σ1 0 9) (fun (r8 : Int) (σ7 : St) => ((i32 r8 = 0 → Q 0 σ7) ∧ (¬ i32 r8 = 0 → Q 1 σ7)))) ∧ ((i32 a2 < 0 ∨ 7 < i32 a2) → V_P_fail σ1 1 (fun (r10 : Int) (σ9 : St) => Q r10 σ9)))) ∧ (i32 r2 = 0 → V_P_fail σ1 1 (fun (r12 : Int) (σ11 : St) => Q r12 σ11))))

def V_P_ahead (σ : St) (a1 : Int) (a2 : Int) (Q : Int → St → Prop) : Prop :=
  V_P_isStitch σ (i32 a1) (fun (r2 : Int) (σ1 : St) => ((i32 r2 = 0 → V_P_fail σ1 1 (fun (r4 : Int) (σ3 : St) => Q r4 σ3)) ∧ (¬ i32 r2 = 0 → V_P_isStitch σ1 (i32 a2) (fun (r6 : Int) (σ5 : St) => ((¬ i32 r6 = 0 → V_Ground_leads σ5 a1 a2 (fun (r8 : Int) (σ7 : St) => ((i32 r8 = 0 → Q 0 σ7) ∧ (¬ i32 r8 = 0 → Q 1 σ7)))) ∧ (i32 r6 = 0 → V_P_fail σ5 1 (fun (r10 : Int) (σ9 : St) => Q r10 σ9)))))))

def V_P_failLong (σ : St) (a1 : Int) (Q : Int → St → Prop) : Prop :=
  (0 ≤ i32 a1 ∧ i32 a1 < 8) ∧ (0 ≤ i32 a1 ∧ i32 a1 < 8) ∧ ∀ σ1 : St, σ1 = ss σ 56 (i32 a1) ((σ 56 (i32 a1)) + 1) → Q ((-9000000000000000000) - (i32 a1)) σ1

def V_P_orders (σ : St) (Q : Int → St → Prop) : Prop :=
  ((i32 (σ 16 0) ≤ 20 → V_Ways_reckon σ (fun (σ1 : St) => Q (σ1 24 0) σ1)) ∧ (20 < i32 (σ 16 0) → V_P_failLong σ 4 (fun (r3 : Int) (σ2 : St) => Q r3 σ2)))

def V_P_order (σ : St) (a1 : Int) (a2 : Int) (Q : Int → St → Prop) : Prop :=
  V_P_isStitch σ (i32 a2) (fun (r2 : Int) (σ1 : St) => ((¬ i32 r2 = 0 → ((i32 (σ1 16 0) ≤ 20 → V_Ways_reckon σ1 (fun (σ3 : St) => ((i64 a1 < 0 → V_P_fail σ3 2 (fun (r5 : Int) (σ4 : St) => Q r5 σ4)) ∧ (0 ≤ i64 a1 → ((i64 a1 < i64 (σ3 24 0) → V_Ways_stitchOf σ3 a1 a2 (fun (r7 : Int) (σ6 : St) => Q r7 σ6)) ∧ (i64 (σ3 24 0) ≤ i64 a1 → V_P_fail σ3 2 (fun (r9 : Int) (σ8 : St) => Q r9 σ8))))))) ∧ (20 < i32 (σ1 16 0) → V_P_fail σ1 4 (fun (r11 : Int) (σ10 : St) => Q r11 σ10)))) ∧ (i32 r2 = 0 → V_P_fail σ1 1 (fun (r13 : Int) (σ12 : St) => Q r13 σ12))))

def V_P_isSheet (σ : St) (a1 : Int) (Q : Int → St → Prop) : Prop :=
  ((i32 a1 < 0 → Q 0 σ) ∧ (0 ≤ i32 a1 → ((4 ≤ i32 a1 → Q 0 σ) ∧ (i32 a1 < 4 → Q 1 σ))))

def V_P_rank (σ : St) (a1 : Int) (Q : Int → St → Prop) : Prop :=
  V_P_isSheet σ a1 (fun (r2 : Int) (σ1 : St) => ((¬ i32 r2 = 0 → ((i32 (σ1 16 0) ≤ 20 → (0 ≤ i32 a1 ∧ i32 a1 < 4) ∧ ∀ q3 : Nat, (q3 : Int) = 57 + 2 * (i32 a1) → ((¬ i32 (σ1 q3 0) = (-1) → V_Ways_reckon σ1 (fun (σ4 : St) => (0 ≤ i32 a1 ∧ i32 a1 < 4) ∧ ∀ q5 : Nat, (q5 : Int) = 57 + 2 * (i32 a1) → V_Ways_numberOf q5 σ4 (fun (r7 : Int) (σ6 : St) => ((0 ≤ i64 r7 → Q r7 σ6) ∧ (i64 r7 < 0 → V_P_failLong σ6 3 (fun (r9 : Int) (σ8 : St) => Q r9 σ8)))))) ∧ (i32 (σ1 q3 0) = (-1) → V_P_failLong σ1 7 (fun (r11 : Int) (σ10 : St) => Q r11 σ10)))) ∧ (20 < i32 (σ1 16 0) → V_P_failLong σ1 4 (fun (r13 : Int) (σ12 : St) => Q r13 σ12)))) ∧ (i32 r2 = 0 → V_P_failLong σ1 1 (fun (r15 : Int) (σ14 : St) => Q r15 σ14))))

def V_P_replay (σ : St) (Q : St → Prop) : Prop :=
  V_Weave_clear 29 σ (fun (σ1 : St) => ∀ σ2 : St, σ2 = ss σ1 0 9 0 → WL1 (fun (bk5 : Int → St → Prop) (x1_3 : Int) (σ4 : St) => ((i32 (σ4 1 6) ≤ i32 x1_3 → Q σ4) ∧ (i32 x1_3 < i32 (σ4 1 6) → (0 ≤ i32 x1_3 ∧ i32 x1_3 < 48) ∧ ∀ x2_6 : Int, x2_6 = σ4 6 (i32 x1_3) → (0 ≤ i32 x2_6 ∧ i32 x2_6 < 48) ∧ (0 ≤ i32 x2_6 ∧ i32 x2_6 < 48) ∧ V_Weave_make 29 σ4 (σ4 19 (i32 x2_6)) (σ4 18 (i32 x2_6)) (fun (σ7 : St) => ∀ σ8 : St, σ8 = ss σ7 0 9 (lro (σ7 0 9) (lsh 1 x2_6)) → bk5 (x1_3 + 1) σ8)))) 0 σ2)

def V_P_tryStitch (σ : St) (a1 : Int) (Q : Int → St → Prop) : Prop :=
  V_P_isStitch σ a1 (fun (r2 : Int) (σ1 : St) => ((¬ i32 r2 = 0 → V_Ground_isFree σ1 a1 (σ1 0 9) (fun (r4 : Int) (σ3 : St) => ((¬ i32 r4 = 0 → (0 ≤ i32 a1 ∧ i32 a1 < 48) ∧ (0 ≤ i32 a1 ∧ i32 a1 < 48) ∧ V_Weave_make 29 σ3 (σ3 19 (i32 a1)) (σ3 18 (i32 a1)) (fun (σ5 : St) => V_Weave_leastLacking 29 σ5 (fun (r7 : Int) (σ6 : St) => ((i32 r7 < 0 → ∀ σ8 : St, σ8 = ss σ6 0 9 (lro (σ6 0 9) (lsh 1 a1)) → (0 ≤ i32 (σ8 1 6) ∧ i32 (σ8 1 6) < 48) ∧ ∀ σ9 : St, σ9 = ss σ8 6 (i32 (σ8 1 6)) a1 → ∀ σ10 : St, σ10 = ss σ9 1 6 ((σ9 1 6) + 1) → Q 0 σ10) ∧ (0 ≤ i32 r7 → V_P_replay σ6 (fun (σ11 : St) => Q 6 σ11)))))) ∧ (i32 r4 = 0 → Q 3 σ3)))) ∧ (i32 r2 = 0 → Q 1 σ1)))

def V_P_work (σ : St) (a1 : Int) (Q : Int → St → Prop) : Prop :=
  V_P_tryStitch σ (i32 a1) (fun (r2 : Int) (σ1 : St) => ((i32 r2 = 0 → (0 ≤ i32 a1 ∧ i32 a1 < 48) ∧ V_Plan_crossingsOf σ1 (σ1 19 (i32 a1)) (fun (r4 : Int) (σ3 : St) => Q r4 σ3)) ∧ (¬ i32 r2 = 0 → V_P_fail σ1 r2 (fun (r6 : Int) (σ5 : St) => Q r6 σ5))))

def V_P_works (σ : St) (a1 : Int) (Q : Int → St → Prop) : Prop :=
  V_P_isSheet σ a1 (fun (r2 : Int) (σ1 : St) => ((¬ i32 r2 = 0 → (0 ≤ i32 a1 ∧ i32 a1 < 4) ∧ ∀ q3 : Nat, (q3 : Int) = 57 + 2 * (i32 a1) → ((¬ i32 (σ1 q3 0) = (-1) → WL1 (fun (bk6 : Int → St → Prop) (x3_4 : Int) (σ5 : St) => ((i32 (σ5 q3 1) ≤ i32 x3_4 → Q (σ5 q3 1) σ5) ∧ (i32 x3_4 < i32 (σ5 q3 1) → (0 ≤ i32 x3_4 ∧ i32 x3_4 < 60) ∧ V_P_tryStitch σ5 (σ5 (q3 + 1) (i32 x3_4)) (fun (r8 : Int) (σ7 : St) => ((i32 r8 = 0 → bk6 (x3_4 + 1) σ7) ∧ (¬ i32 r8 = 0 → Q x3_4 σ7)))))) 0 σ1) ∧ (i32 (σ1 q3 0) = (-1) → V_P_fail σ1 7 (fun (r10 : Int) (σ9 : St) => Q r10 σ9)))) ∧ (i32 r2 = 0 → V_P_fail σ1 1 (fun (r12 : Int) (σ11 : St) => Q r12 σ11))))

def V_P_back (σ : St) (Q : Int → St → Prop) : Prop :=
  ((¬ i32 (σ 1 6) = 0 → ∀ σ1 : St, σ1 = ss σ 1 6 ((σ 1 6) - 1) → V_P_replay σ1 (fun (σ2 : St) => (0 ≤ i32 (σ2 1 6) ∧ i32 (σ2 1 6) < 48) ∧ Q (σ2 6 (i32 (σ2 1 6))) σ2)) ∧ (i32 (σ 1 6) = 0 → V_P_fail σ 2 (fun (r4 : Int) (σ3 : St) => Q r4 σ3)))

def V_P_worked (σ : St) (a1 : Int) (Q : Int → St → Prop) : Prop :=
  ((i32 a1 < 0 → V_P_fail σ 1 (fun (r2 : Int) (σ1 : St) => Q r2 σ1)) ∧ (0 ≤ i32 a1 → ((i32 a1 < i32 (σ 1 6) → (0 ≤ i32 a1 ∧ i32 a1 < 48) ∧ Q (σ 6 (i32 a1)) σ) ∧ (i32 (σ 1 6) ≤ i32 a1 → V_P_fail σ 1 (fun (r4 : Int) (σ3 : St) => Q r4 σ3)))))

def V_P_isThread (σ : St) (a1 : Int) (Q : Int → St → Prop) : Prop :=
  ((i32 a1 < 0 → Q 0 σ) ∧ (0 ≤ i32 a1 → ((i32 (2 * (σ 1 0)) ≤ i32 a1 → Q 0 σ) ∧ (i32 a1 < i32 (2 * (σ 1 0)) → Q 1 σ))))

def V_P_at (σ : St) (a1 : Int) (Q : Int → St → Prop) : Prop :=
  V_P_isThread σ a1 (fun (r2 : Int) (σ1 : St) => ((¬ i32 r2 = 0 → (0 ≤ i32 a1 ∧ i32 a1 < 16) ∧ Q (σ1 30 (i32 a1)) σ1) ∧ (i32 r2 = 0 → V_P_fail σ1 1 (fun (r4 : Int) (σ3 : St) => Q r4 σ3))))

def V_P_wind (σ : St) (a1 : Int) (a2 : Int) (Q : Int → St → Prop) : Prop :=
  V_P_isThread σ a1 (fun (r2 : Int) (σ1 : St) => ((i32 r2 = 0 → V_P_fail σ1 1 (fun (r4 : Int) (σ3 : St) => Q r4 σ3)) ∧ (¬ i32 r2 = 0 → ((i32 a2 < 0 → V_P_fail σ1 1 (fun (r6 : Int) (σ5 : St) => Q r6 σ5)) ∧ (0 ≤ i32 a2 → ((i32 a2 ≤ 9999 → (0 ≤ i32 a1 ∧ i32 a1 < 16) ∧ ((i32 (σ1 32 (i32 a1)) ≤ i32 a2 → (0 ≤ i32 a1 ∧ i32 a1 < 16) ∧ ∀ x3_7 : Int, x3_7 = σ1 5 (i32 a1) → (0 ≤ i32 a1 ∧ i32 a1 < 16) ∧ ∀ σ8 : St, σ8 = ss σ1 5 (i32 a1) a2 → Q x3_7 σ8) ∧ (i32 a2 < i32 (σ1 32 (i32 a1)) → V_P_fail σ1 3 (fun (r10 : Int) (σ9 : St) => Q r10 σ9)))) ∧ (9999 < i32 a2 → V_P_fail σ1 1 (fun (r12 : Int) (σ11 : St) => Q r12 σ11))))))))

def J_P_thinkStitches_27 (a1 : Int) (Q : St → Prop) (σ1 : St) : Prop :=
  ∀ x2_2 : Int, x2_2 = σ1 0 8 → WL1 (fun (bk5 : Int → St → Prop) (x2_3 : Int) (σ4 : St) => ((i32 a1 ≤ i32 x2_3 → ∀ σ6 : St, σ6 = ss σ4 0 8 a1 → Q σ6) ∧ (i32 x2_3 < i32 a1 → (0 ≤ i32 x2_3 ∧ i32 x2_3 < 48) ∧ (0 ≤ i32 x2_3 ∧ i32 x2_3 < 48) ∧ V_Weave_make 41 σ4 (σ4 19 (i32 x2_3)) (σ4 18 (i32 x2_3)) (fun (σ7 : St) => bk5 (x2_3 + 1) σ7)))) x2_2 σ1
def J_P_thinkStitches_15 (a1 : Int) (Q : St → Prop) (σ8 : St) : Prop :=
  V_Weave_clear 41 σ8 (fun (σ9 : St) => ∀ σ10 : St, σ10 = ss σ9 0 8 0 → J_P_thinkStitches_27 a1 Q σ10)
def V_P_thinkStitches (σ : St) (a1 : Int) (Q : St → Prop) : Prop :=
  ((i32 (σ 0 8) < 0 → J_P_thinkStitches_15 a1 Q σ) ∧ (0 ≤ i32 (σ 0 8) → ((i32 (σ 0 8) ≤ i32 a1 → J_P_thinkStitches_27 a1 Q σ) ∧ (i32 a1 < i32 (σ 0 8) → J_P_thinkStitches_15 a1 Q σ))))

def V_P_thread (σ : St) (a1 : Int) (a2 : Int) (Q : Int → St → Prop) : Prop :=
  V_P_isThread σ a1 (fun (r2 : Int) (σ1 : St) => ((i32 r2 = 0 → V_P_fail σ1 1 (fun (r4 : Int) (σ3 : St) => Q r4 σ3)) ∧ (¬ i32 r2 = 0 → ((i32 a2 < 0 → V_P_fail σ1 1 (fun (r6 : Int) (σ5 : St) => Q r6 σ5)) ∧ (0 ≤ i32 a2 → ((i32 a2 ≤ 7 → ((¬ i32 a2 = 0 → ((¬ i32 a2 = 1 → ((¬ i32 a2 = 2 → V_P_thinkStitches σ1 (σ1 16 0) (fun (σ7 : St) => ((i32 a2 = 3 → V_Weave_turnsOf 41 σ7 a1 (fun (r9 : Int) (σ8 : St) => Q r9 σ8)) ∧ (i32 a2 = 4 → (0 ≤ i32 a1 ∧ i32 a1 < 16) ∧ Q (σ7 44 (i32 a1)) σ7) ∧ (i32 a2 = 5 → (0 ≤ i32 a1 ∧ i32 a1 < 16) ∧ Q (σ7 45 (i32 a1)) σ7) ∧ (i32 a2 = 6 → (0 ≤ i32 a1 ∧ i32 a1 < 16) ∧ Q (σ7 46 (i32 a1)) σ7) ∧ ((i32 a2 < 3 ∨ 6 < i32 a2) → (0 ≤ i32 a1 ∧ i32 a1 < 16) ∧ Q (σ7 47 (i32 a1)) σ7)))) ∧ (i32 a2 = 2 → (0 ≤ i32 a1 ∧ i32 a1 < 16) ∧ Q (σ1 31 (i32 a1)) σ1))) ∧ (i32 a2 = 1 → (0 ≤ i32 a1 ∧ i32 a1 < 16) ∧ (0 ≤ i32 a1 ∧ i32 a1 < 16) ∧ Q ((σ1 5 (i32 a1)) - (σ1 32 (i32 a1))) σ1))) ∧ (i32 a2 = 0 → (0 ≤ i32 a1 ∧ i32 a1 < 16) ∧ Q (σ1 5 (i32 a1)) σ1))) ∧ (7 < i32 a2 → V_P_fail σ1 1 (fun (r11 : Int) (σ10 : St) => Q r11 σ10))))))))

def V_P_place (σ : St) (a1 : Int) (a2 : Int) (Q : Int → St → Prop) : Prop :=
  V_P_isThread σ a1 (fun (r2 : Int) (σ1 : St) => ((i32 r2 = 0 → V_P_fail σ1 1 (fun (r4 : Int) (σ3 : St) => Q r4 σ3)) ∧ (¬ i32 r2 = 0 → ((i32 a2 < 0 → V_P_fail σ1 1 (fun (r6 : Int) (σ5 : St) => Q r6 σ5)) ∧ (0 ≤ i32 a2 → ((i32 a2 ≤ i32 (σ1 16 0) → V_P_thinkStitches σ1 a2 (fun (σ7 : St) => (0 ≤ i32 a1 ∧ i32 a1 < 16) ∧ Q (σ7 43 (i32 a1)) σ7)) ∧ (i32 (σ1 16 0) < i32 a2 → V_P_fail σ1 1 (fun (r9 : Int) (σ8 : St) => Q r9 σ8))))))))

def V_P_rounds (σ : St) (Q : Int → St → Prop) : Prop :=
  V_P_thinkStitches σ (σ 16 0) (fun (σ1 : St) => V_Weave_commonTurns 41 σ1 (fun (r3 : Int) (σ2 : St) => Q r3 σ2))

def V_P_link (σ : St) (a1 : Int) (a2 : Int) (Q : Int → St → Prop) : Prop :=
  V_P_isThread σ a1 (fun (r2 : Int) (σ1 : St) => ((i32 r2 = 0 → V_P_fail σ1 1 (fun (r4 : Int) (σ3 : St) => Q r4 σ3)) ∧ (¬ i32 r2 = 0 → V_P_isThread σ1 a2 (fun (r6 : Int) (σ5 : St) => ((i32 r6 = 0 → V_P_fail σ5 1 (fun (r8 : Int) (σ7 : St) => Q r8 σ7)) ∧ (¬ i32 r6 = 0 → ((¬ i32 a1 = i32 a2 → V_P_thinkStitches σ5 (σ5 16 0) (fun (σ9 : St) => (0 ≤ i32 ((a1 * 16) + a2) ∧ i32 ((a1 * 16) + a2) < 256) ∧ (0 ≤ i32 ((a2 * 16) + a1) ∧ i32 ((a2 * 16) + a1) < 256) ∧ Q ((σ9 49 (i32 ((a1 * 16) + a2))) - (σ9 49 (i32 ((a2 * 16) + a1)))) σ9)) ∧ (i32 a1 = i32 a2 → V_P_fail σ5 1 (fun (r11 : Int) (σ10 : St) => Q r11 σ10)))))))))

def V_P_meet (σ : St) (a1 : Int) (a2 : Int) (Q : Int → St → Prop) : Prop :=
  V_P_isThread σ a1 (fun (r2 : Int) (σ1 : St) => ((i32 r2 = 0 → V_P_fail σ1 1 (fun (r4 : Int) (σ3 : St) => Q r4 σ3)) ∧ (¬ i32 r2 = 0 → V_P_isThread σ1 a2 (fun (r6 : Int) (σ5 : St) => ((i32 r6 = 0 → V_P_fail σ5 1 (fun (r8 : Int) (σ7 : St) => Q r8 σ7)) ∧ (¬ i32 r6 = 0 → ((¬ i32 a1 = i32 a2 → WL1 (fun (bk11 : Int → St → Prop) (x3_9 : Int) (σ10 : St) => ((i32 (σ10 16 0) ≤ i32 x3_9 → V_P_fail σ10 2 (fun (r13 : Int) (σ12 : St) => Q r13 σ12)) ∧ (i32 x3_9 < i32 (σ10 16 0) → V_P_thinkStitches σ10 (x3_9 + 1) (fun (σ14 : St) => V_Weave_haveCrossed 41 σ14 a1 a2 (fun (r16 : Int) (σ15 : St) => ((i32 r16 = 0 → bk11 (x3_9 + 1) σ15) ∧ (¬ i32 r16 = 0 → Q x3_9 σ15))))))) 0 σ5) ∧ (i32 a1 = i32 a2 → V_P_fail σ5 1 (fun (r18 : Int) (σ17 : St) => Q r18 σ17)))))))))

def V_P_lacks (σ : St) (a1 : Int) (Q : Int → St → Prop) : Prop :=
  ((i32 a1 < 0 → V_P_fail σ 1 (fun (r2 : Int) (σ1 : St) => Q r2 σ1)) ∧ (0 ≤ i32 a1 → ((i32 a1 ≤ 1 → WL1 (fun (bk5 : Int → St → Prop) (x2_3 : Int) (σ4 : St) => ((i32 (σ4 16 0) ≤ i32 x2_3 → V_P_fail σ4 2 (fun (r7 : Int) (σ6 : St) => Q r7 σ6)) ∧ (i32 x2_3 < i32 (σ4 16 0) → V_P_thinkStitches σ4 (x2_3 + 1) (fun (σ8 : St) => V_Weave_leastLacking 41 σ8 (fun (r10 : Int) (σ9 : St) => ((i32 r10 < 0 → bk5 (x2_3 + 1) σ9) ∧ (0 ≤ i32 r10 → ((¬ i32 a1 = 0 → Q r10 σ9) ∧ (i32 a1 = 0 → Q x2_3 σ9))))))))) 0 σ) ∧ (1 < i32 a1 → V_P_fail σ 1 (fun (r12 : Int) (σ11 : St) => Q r12 σ11)))))

def V_P_weaveOf (σ : St) (a1 : Int) (Q : Nat → St → Prop) : Prop :=
  ((¬ i32 a1 = 0 → V_P_thinkStitches σ (σ 16 0) (fun (σ1 : St) => Q 41 σ1)) ∧ (i32 a1 = 0 → Q 29 σ))

def V_P_lace (σ : St) (a1 : Int) (a2 : Int) (Q : Int → St → Prop) : Prop :=
  ((i32 a1 < 0 → V_P_fail σ 1 (fun (r2 : Int) (σ1 : St) => Q r2 σ1)) ∧ (0 ≤ i32 a1 → ((1 < i32 a1 → V_P_fail σ 1 (fun (r4 : Int) (σ3 : St) => Q r4 σ3)) ∧ (i32 a1 ≤ 1 → ((i32 a2 < 0 → V_P_fail σ 1 (fun (r6 : Int) (σ5 : St) => Q r6 σ5)) ∧ (0 ≤ i32 a2 → ((i32 a2 ≤ 3 → V_P_weaveOf σ a1 (fun (r8 : Nat) (σ7 : St) => isWeave r8 ∧ ((i32 a2 = 0 → Q (σ7 r8 9) σ7) ∧ (i32 a2 = 1 → Q (σ7 (r8 + 9) 0) σ7) ∧ (i32 a2 = 2 → V_Heap_countLayers (r8 + 9) σ7 (fun (r10 : Int) (σ9 : St) => Q r10 σ9)) ∧ ((i32 a2 < 0 ∨ 2 < i32 a2) → V_Heap_countSign (r8 + 9) σ7 1 (fun (r12 : Int) (σ11 : St) => Q r12 σ11))))) ∧ (3 < i32 a2 → V_P_fail σ 1 (fun (r14 : Int) (σ13 : St) => Q r14 σ13)))))))))

def V_P_layer (σ : St) (a1 : Int) (a2 : Int) (a3 : Int) (Q : Int → St → Prop) : Prop :=
  ((i32 a1 < 0 → V_P_fail σ 1 (fun (r2 : Int) (σ1 : St) => Q r2 σ1)) ∧ (0 ≤ i32 a1 → ((1 < i32 a1 → V_P_fail σ 1 (fun (r4 : Int) (σ3 : St) => Q r4 σ3)) ∧ (i32 a1 ≤ 1 → ((i32 a2 < 0 → V_P_fail σ 1 (fun (r6 : Int) (σ5 : St) => Q r6 σ5)) ∧ (0 ≤ i32 a2 → ((i32 a3 < 0 → V_P_fail σ 1 (fun (r8 : Int) (σ7 : St) => Q r8 σ7)) ∧ (0 ≤ i32 a3 → ((i32 a3 ≤ i32 ((2 * (σ 1 0)) - 2) → V_P_weaveOf σ a1 (fun (r10 : Nat) (σ9 : St) => isWeave r10 ∧ V_Heap_signAt (r10 + 9) σ9 a2 a3 (fun (r12 : Int) (σ11 : St) => Q r12 σ11))) ∧ (i32 ((2 * (σ 1 0)) - 2) < i32 a3 → V_P_fail σ 1 (fun (r14 : Int) (σ13 : St) => Q r14 σ13)))))))))))

def V_P_repeat (σ : St) (Q : Int → St → Prop) : Prop :=
  WL1 (fun (bk3 : Int → St → Prop) (x1_1 : Int) (σ2 : St) => ((i32 (σ2 16 1) < i32 x1_1 → V_P_fail σ2 2 (fun (r5 : Int) (σ4 : St) => Q r5 σ4)) ∧ (i32 x1_1 ≤ i32 (σ2 16 1) → V_Plan_repeatsBy σ2 x1_1 (σ2 16 1) (fun (r7 : Int) (σ6 : St) => ((i32 r7 = 0 → bk3 (x1_1 + 1) σ6) ∧ (¬ i32 r7 = 0 → Q x1_1 σ6)))))) 1 σ

def V_P_motif (σ : St) (a1 : Int) (a2 : Int) (a3 : Int) (Q : Int → St → Prop) : Prop :=
  V_P_isSheet σ a1 (fun (r2 : Int) (σ1 : St) => ((i32 r2 = 0 → V_P_fail σ1 1 (fun (r4 : Int) (σ3 : St) => Q r4 σ3)) ∧ (¬ i32 r2 = 0 → ((i32 a2 < 1 → V_P_fail σ1 1 (fun (r6 : Int) (σ5 : St) => Q r6 σ5)) ∧ (1 ≤ i32 a2 → ((7 < i32 a2 → V_P_fail σ1 1 (fun (r8 : Int) (σ7 : St) => Q r8 σ7)) ∧ (i32 a2 ≤ 7 → ((i32 a3 < 0 → V_P_fail σ1 1 (fun (r10 : Int) (σ9 : St) => Q r10 σ9)) ∧ (0 ≤ i32 a3 → ((i32 a3 ≤ 1 → (0 ≤ i32 a1 ∧ i32 a1 < 4) ∧ ∀ q11 : Nat, (q11 : Int) = 57 + 2 * (i32 a1) → ((¬ i32 (σ1 q11 0) = (-1) → ((i32 (σ1 q11 1) = 0 → V_P_fail σ1 3 (fun (r13 : Int) (σ12 : St) => Q r13 σ12)) ∧ (¬ i32 (σ1 q11 1) = 0 → (¬ i32 a2 = 0) ∧ ((i32 (irm (σ1 q11 1) a2) = 0 → WL2 (fun (bk17 : Int → Int → St → Prop) (x6_14 : Int) (x5_15 : Int) (σ16 : St) => ((12 ≤ i32 x6_14 → ((¬ i32 a3 = 1 → Q x5_15 σ16) ∧ (i32 a3 = 1 → V_P_fail σ16 2 (fun (r19 : Int) (σ18 : St) => Q r19 σ18)))) ∧ (i32 x6_14 < 12 → WL2 (fun (bk23 : Int → Int → St → Prop) (x7_20 : Int) (x5_21 : Int) (σ22 : St) => ((i32 ((σ22 1 0) - 1) ≤ i32 x7_20 → bk17 (x6_14 + 1) x5_21 σ22) ∧ (i32 x7_20 < i32 ((σ22 1 0) - 1) → V_Plan_fits q11 σ22 a2 x6_14 x7_20 (fun (r25 : Int) (σ24 : St) => ((i32 r25 = 0 → bk23 (x7_20 + 1) x5_21 σ24) ∧ (¬ i32 r25 = 0 → ((¬ i32 a3 = 1 → bk23 (x7_20 + 1) (x5_21 + 1) σ24) ∧ (i32 a3 = 1 → Q ((10 * x6_14) + x7_20) σ24)))))))) 0 x5_15 σ16))) 0 0 σ1) ∧ (¬ i32 (irm (σ1 q11 1) a2) = 0 → V_P_fail σ1 3 (fun (r27 : Int) (σ26 : St) => Q r27 σ26)))))) ∧ (i32 (σ1 q11 0) = (-1) → V_P_fail σ1 7 (fun (r29 : Int) (σ28 : St) => Q r29 σ28)))) ∧ (1 < i32 a3 → V_P_fail σ1 1 (fun (r31 : Int) (σ30 : St) => Q r31 σ30))))))))))))

def V_P_sheet (σ : St) (a1 : Int) (a2 : Int) (a3 : Int) (Q : Int → St → Prop) : Prop :=
  V_P_isSheet σ a1 (fun (r2 : Int) (σ1 : St) => ((i32 r2 = 0 → V_P_fail σ1 1 (fun (r4 : Int) (σ3 : St) => Q r4 σ3)) ∧ (¬ i32 r2 = 0 → ((i32 a2 < (-1) → V_P_fail σ1 1 (fun (r6 : Int) (σ5 : St) => Q r6 σ5)) ∧ ((-1) ≤ i32 a2 → ((i32 a2 ≤ 3 → ((¬ i32 a2 = (-1) → ((0 ≤ i32 a3 → ((i32 a3 ≤ 60 → (0 ≤ i32 a1 ∧ i32 a1 < 4) ∧ ∀ q7 : Nat, (q7 : Int) = 57 + 2 * (i32 a1) → V_Sheet_begin q7 σ1 a2 a3 (fun (σ8 : St) => Q 1 σ8)) ∧ (60 < i32 a3 → V_P_fail σ1 1 (fun (r10 : Int) (σ9 : St) => Q r10 σ9)))) ∧ (i32 a3 < 0 → V_P_fail σ1 3 (fun (r12 : Int) (σ11 : St) => Q r12 σ11)))) ∧ (i32 a2 = (-1) → (0 ≤ i32 a1 ∧ i32 a1 < 4) ∧ ∀ q13 : Nat, (q13 : Int) = 57 + 2 * (i32 a1) → ∀ σ14 : St, σ14 = ss σ1 q13 0 (-1) → Q 1 σ14))) ∧ (3 < i32 a2 → V_P_fail σ1 1 (fun (r16 : Int) (σ15 : St) => Q r16 σ15))))))))

def V_P_put (σ : St) (a1 : Int) (a2 : Int) (a3 : Int) (Q : Int → St → Prop) : Prop :=
  V_P_isSheet σ a1 (fun (r2 : Int) (σ1 : St) => ((¬ i32 r2 = 0 → (0 ≤ i32 a1 ∧ i32 a1 < 4) ∧ ∀ q3 : Nat, (q3 : Int) = 57 + 2 * (i32 a1) → V_Sheet_has q3 σ1 a2 (fun (r5 : Int) (σ4 : St) => ((¬ i32 r5 = 0 → (0 ≤ i32 a1 ∧ i32 a1 < 4) ∧ ∀ q6 : Nat, (q6 : Int) = 57 + 2 * (i32 a1) → (0 ≤ i32 a1 ∧ i32 a1 < 4) ∧ ∀ q7 : Nat, (q7 : Int) = 57 + 2 * (i32 a1) → V_Sheet_cut q7 σ4 a3 (fun (r9 : Int) (σ8 : St) => (0 ≤ i32 a2 ∧ i32 a2 < 60) ∧ ∀ σ10 : St, σ10 = ss σ8 (q6 + 1) (i32 a2) r9 → Q 1 σ10)) ∧ (i32 r5 = 0 → V_P_fail σ4 7 (fun (r12 : Int) (σ11 : St) => Q r12 σ11))))) ∧ (i32 r2 = 0 → V_P_fail σ1 1 (fun (r14 : Int) (σ13 : St) => Q r14 σ13))))

def V_P_number (σ : St) (a1 : Int) (a2 : Int) (Q : Int → St → Prop) : Prop :=
  V_P_isSheet σ a1 (fun (r2 : Int) (σ1 : St) => ((¬ i32 r2 = 0 → (0 ≤ i32 a1 ∧ i32 a1 < 4) ∧ ∀ q3 : Nat, (q3 : Int) = 57 + 2 * (i32 a1) → V_Sheet_has q3 σ1 a2 (fun (r5 : Int) (σ4 : St) => ((¬ i32 r5 = 0 → (0 ≤ i32 a1 ∧ i32 a1 < 4) ∧ ∀ q6 : Nat, (q6 : Int) = 57 + 2 * (i32 a1) → (0 ≤ i32 a2 ∧ i32 a2 < 60) ∧ Q (σ4 (q6 + 1) (i32 a2)) σ4) ∧ (i32 r5 = 0 → V_P_failLong σ4 7 (fun (r8 : Int) (σ7 : St) => Q r8 σ7))))) ∧ (i32 r2 = 0 → V_P_failLong σ1 1 (fun (r10 : Int) (σ9 : St) => Q r10 σ9))))

def V_P_image (σ : St) (Q : Int → St → Prop) : Prop :=
  V_Plan_copyFrom 7 1 σ (fun (σ1 : St) => V_Heap_copyFrom σ1 (fun (σ2 : St) => ∀ σ3 : St, σ3 = ss σ2 0 3 1 → Q (σ3 7 6) σ3))

def V_P_restore (σ : St) (Q : Int → St → Prop) : Prop :=
  ((¬ i32 (σ 0 3) = 0 → V_Plan_copyFrom 1 7 σ (fun (σ1 : St) => V_P_regard σ1 (fun (σ2 : St) => V_P_replay σ2 (fun (σ3 : St) => Q (σ3 1 6) σ3)))) ∧ (i32 (σ 0 3) = 0 → V_P_fail σ 2 (fun (r5 : Int) (σ4 : St) => Q r5 σ4)))

def V_P_alike (σ : St) (Q : Int → St → Prop) : Prop :=
  ((¬ i32 (σ 0 3) = 0 → V_Heap_isAs σ (fun (r2 : Int) (σ1 : St) => ((i32 r2 = 0 → Q 0 σ1) ∧ (¬ i32 r2 = 0 → Q 1 σ1)))) ∧ (i32 (σ 0 3) = 0 → V_P_fail σ 2 (fun (r4 : Int) (σ3 : St) => Q r4 σ3)))

def V_P_sumOf (a : Nat) (σ : St) (a1 : Int) (Q : Int → St → Prop) : Prop :=
  WL2 (fun (bk4 : Int → Int → St → Prop) (x3_1 : Int) (x2_2 : Int) (σ3 : St) => ((i32 a1 ≤ i32 x3_1 → Q x2_2 σ3) ∧ (i32 x3_1 < i32 a1 → ((16 ≤ i32 x3_1 → Q x2_2 σ3) ∧ (i32 x3_1 < 16 → (0 ≤ i32 x3_1 ∧ i32 x3_1 < 16) ∧ ∀ x2_5 : Int, x2_5 = x2_2 + (σ3 a (i32 x3_1)) → bk4 (x3_1 + 1) x2_5 σ3))))) 0 0 σ

def V_P_count (σ : St) (a1 : Int) (Q : Int → St → Prop) : Prop :=
  ∀ x2_1 : Int, x2_1 = 2 * (σ 1 0) → ((i32 a1 = 0 → Q (σ 1 0) σ) ∧ (i32 a1 = 1 → Q (σ 53 1) σ) ∧ (i32 a1 = 2 → V_P_sumOf 5 σ x2_1 (fun (r3 : Int) (σ2 : St) => V_P_sumOf 32 σ2 x2_1 (fun (r5 : Int) (σ4 : St) => Q (r3 - r5) σ4))) ∧ (i32 a1 = 3 → V_P_sumOf 5 σ x2_1 (fun (r7 : Int) (σ6 : St) => Q r7 σ6)) ∧ (i32 a1 = 4 → Q (σ 29 9) σ) ∧ (i32 a1 = 5 → V_Weave_countAtHome 29 σ x2_1 (fun (r9 : Int) (σ8 : St) => Q r9 σ8)) ∧ ((i32 a1 < 0 ∨ 5 < i32 a1) → V_P_fail σ 1 (fun (r11 : Int) (σ10 : St) => Q r11 σ10)))

def V_P_told (σ : St) (a1 : Int) (Q : Int → St → Prop) : Prop :=
  ((i32 a1 < 1 → V_P_fail σ 1 (fun (r2 : Int) (σ1 : St) => Q r2 σ1)) ∧ (1 ≤ i32 a1 → ((i32 a1 ≤ 7 → (0 ≤ i32 a1 ∧ i32 a1 < 8) ∧ Q (σ 56 (i32 a1)) σ) ∧ (7 < i32 a1 → V_P_fail σ 1 (fun (r4 : Int) (σ3 : St) => Q r4 σ3)))))

def V_M_in (σ : St) (a1 : Int) (a2 : Int) (a3 : Int) (Q : Int → St → Prop) : Prop :=
  ((i64 a1 < i64 a2 → Q 0 σ) ∧ (i64 a2 ≤ i64 a1 → ((i64 a3 < i64 a1 → Q 0 σ) ∧ (i64 a1 ≤ i64 a3 → Q 1 σ))))

def V_M_errs (σ : St) (a1 : Int) (Q : Int → St → Prop) : Prop :=
  (0 ≤ i32 ((-1000000000) - a1) ∧ i32 ((-1000000000) - a1) < 8) ∧ (0 ≤ i32 ((-1000000000) - a1) ∧ i32 ((-1000000000) - a1) < 8) ∧ ∀ σ1 : St, σ1 = ss σ 4 (i32 ((-1000000000) - a1)) ((σ 4 (i32 ((-1000000000) - a1))) + 1) → Q a1 σ1

def V_M_errsLong (σ : St) (a1 : Int) (Q : Int → St → Prop) : Prop :=
  (0 ≤ i32 ((-1000000000) - a1) ∧ i32 ((-1000000000) - a1) < 8) ∧ (0 ≤ i32 ((-1000000000) - a1) ∧ i32 ((-1000000000) - a1) < 8) ∧ ∀ σ1 : St, σ1 = ss σ 4 (i32 ((-1000000000) - a1)) ((σ 4 (i32 ((-1000000000) - a1))) + 1) → Q ((-9000000000000000000) + (i32 (a1 - (-1000000000)))) σ1

def V_M_copy (a : Nat) (b : Nat) (σ : St) (Q : St → Prop) : Prop :=
  WL1 (fun (bk3 : Int → St → Prop) (x2_1 : Int) (σ2 : St) => ((204 ≤ i32 x2_1 → Q σ2) ∧ (i32 x2_1 < 204 → (0 ≤ i32 x2_1 ∧ i32 x2_1 < 204) ∧ (0 ≤ i32 x2_1 ∧ i32 x2_1 < 204) ∧ ∀ σ4 : St, σ4 = ss σ2 b (i32 x2_1) (σ2 a (i32 x2_1)) → bk3 (x2_1 + 1) σ4))) 0 σ

def V_M_bits (σ : St) (a1 : Int) (Q : Int → St → Prop) : Prop :=
  WL2 (fun (bk4 : Int → Int → St → Prop) (x3_1 : Int) (x2_2 : Int) (σ3 : St) => ((i64 x3_1 = 0 → Q x2_2 σ3) ∧ (¬ i64 x3_1 = 0 → ∀ x3_5 : Int, x3_5 = lan x3_1 (x3_1 - 1) → bk4 x3_5 (x2_2 + 1) σ3))) a1 0 σ

def V_M_gaps (σ : St) (Q : Int → St → Prop) : Prop :=
  Q ((σ 1 0) - 1) σ

def V_M_threads (σ : St) (Q : Int → St → Prop) : Prop :=
  Q (2 * (σ 1 0)) σ

def V_M_held (σ : St) (a1 : Int) (a2 : Int) (Q : Int → St → Prop) : Prop :=
  (0 ≤ i32 ((2 + (7 * a1)) + a2) ∧ i32 ((2 + (7 * a1)) + a2) < 204) ∧ Q (σ 1 (i32 ((2 + (7 * a1)) + a2))) σ

def V_M_add (σ : St) (a1 : Int) (a2 : Int) (Q : St → Prop) : Prop :=
  (0 ≤ i32 (σ 0 5) ∧ i32 (σ 0 5) < 48) ∧ ∀ σ1 : St, σ1 = ss σ 5 (i32 (σ 0 5)) a1 → (0 ≤ i32 (σ1 0 5) ∧ i32 (σ1 0 5) < 48) ∧ ∀ σ2 : St, σ2 = ss σ1 6 (i32 (σ1 0 5)) a2 → V_M_held σ2 a1 a2 (fun (r4 : Int) (σ3 : St) => (0 ≤ i32 (σ2 0 5) ∧ i32 (σ2 0 5) < 48) ∧ ∀ σ5 : St, σ5 = ss σ3 7 (i32 (σ2 0 5)) r4 → (0 ≤ i32 (σ5 0 5) ∧ i32 (σ5 0 5) < 48) ∧ ∀ σ6 : St, σ6 = ss σ5 9 (i32 (σ5 0 5)) 0 → (0 ≤ i32 (σ6 0 5) ∧ i32 (σ6 0 5) < 48) ∧ ∀ σ7 : St, σ7 = ss σ6 8 (i32 (σ6 0 5)) 0 → WL1 (fun (bk10 : Int → St → Prop) (x3_8 : Int) (σ9 : St) => ((i32 (σ9 0 5) ≤ i32 x3_8 → ∀ σ11 : St, σ11 = ss σ9 0 5 ((σ9 0 5) + 1) → Q σ11) ∧ (i32 x3_8 < i32 (σ9 0 5) → (0 ≤ i32 x3_8 ∧ i32 x3_8 < 48) ∧ ∀ x4_12 : Int, x4_12 = (σ9 6 (i32 x3_8)) - a2 → (0 ≤ i32 x3_8 ∧ i32 x3_8 < 48) ∧ ((i32 a1 ≤ i32 (σ9 5 (i32 x3_8)) → bk10 (x3_8 + 1) σ9) ∧ (i32 (σ9 5 (i32 x3_8)) < i32 a1 → ((i32 x4_12 ≤ (-2) → bk10 (x3_8 + 1) σ9) ∧ ((-2) < i32 x4_12 → ((2 ≤ i32 x4_12 → bk10 (x3_8 + 1) σ9) ∧ (i32 x4_12 < 2 → (0 ≤ i32 (σ9 0 5) ∧ i32 (σ9 0 5) < 48) ∧ (0 ≤ i32 x3_8 ∧ i32 x3_8 < 48) ∧ (0 ≤ i32 (σ9 0 5) ∧ i32 (σ9 0 5) < 48) ∧ ∀ σ13 : St, σ13 = ss σ9 9 (i32 (σ9 0 5)) (lro (σ9 9 (i32 (σ9 0 5))) (lro (σ9 9 (i32 x3_8)) (lsh 1 x3_8))) → (0 ≤ i32 x3_8 ∧ i32 x3_8 < 48) ∧ (0 ≤ i32 (σ13 0 5) ∧ i32 (σ13 0 5) < 48) ∧ ((i32 (σ13 8 (i32 x3_8)) < i32 (σ13 8 (i32 (σ13 0 5))) → (0 ≤ i32 (σ13 0 5) ∧ i32 (σ13 0 5) < 48) ∧ (0 ≤ i32 (σ13 0 5) ∧ i32 (σ13 0 5) < 48) ∧ ∀ σ14 : St, σ14 = ss σ13 8 (i32 (σ13 0 5)) (σ13 8 (i32 (σ13 0 5))) → bk10 (x3_8 + 1) σ14) ∧ (i32 (σ13 8 (i32 (σ13 0 5))) ≤ i32 (σ13 8 (i32 x3_8)) → (0 ≤ i32 x3_8 ∧ i32 x3_8 < 48) ∧ (0 ≤ i32 (σ13 0 5) ∧ i32 (σ13 0 5) < 48) ∧ ∀ σ15 : St, σ15 = ss σ13 8 (i32 (σ13 0 5)) ((σ13 8 (i32 x3_8)) + 1) → bk10 (x3_8 + 1) σ15))))))))))) 0 σ7)

def V_M_lists (σ : St) (Q : St → Prop) : Prop :=
  ∀ σ1 : St, σ1 = ss σ 0 5 0 → WL1 (fun (bk4 : Int → St → Prop) (x1_2 : Int) (σ3 : St) => ((12 ≤ i32 x1_2 → Q σ3) ∧ (i32 x1_2 < 12 → WL1 (fun (bk7 : Int → St → Prop) (x2_5 : Int) (σ6 : St) => V_M_gaps σ6 (fun (r9 : Int) (σ8 : St) => ((i32 r9 ≤ i32 x2_5 → bk4 (x1_2 + 1) σ8) ∧ (i32 x2_5 < i32 r9 → V_M_held σ8 x1_2 x2_5 (fun (r11 : Int) (σ10 : St) => ((i32 r11 < 0 → bk7 (x2_5 + 1) σ10) ∧ (0 ≤ i32 r11 → V_M_add σ10 x1_2 x2_5 (fun (σ12 : St) => bk7 (x2_5 + 1) σ12)))))))) 0 σ3))) 0 σ1

def V_M_anew (σ : St) (Q : St → Prop) : Prop :=
  ∀ σ1 : St, σ1 = ss σ 1 1 0 → V_M_lists σ1 (fun (σ2 : St) => Q σ2)

def V_M_workedSet (σ : St) (Q : Int → St → Prop) : Prop :=
  WL2 (fun (bk4 : Int → Int → St → Prop) (x3_1 : Int) (x1_2 : Int) (σ3 : St) => ((i32 (σ3 1 1) ≤ i32 x3_1 → Q x1_2 σ3) ∧ (i32 x3_1 < i32 (σ3 1 1) → (0 ≤ i32 (156 + x3_1) ∧ i32 (156 + x3_1) < 204) ∧ ∀ x1_5 : Int, x1_5 = lro x1_2 (lsh 1 (σ3 1 (i32 (156 + x3_1)))) → bk4 (x3_1 + 1) x1_5 σ3))) 0 0 σ

def V_M_isFree (σ : St) (a1 : Int) (Q : Int → St → Prop) : Prop :=
  V_M_workedSet σ (fun (r2 : Int) (σ1 : St) => ((¬ i64 (lan (lsr r2 a1) 1) = 0 → Q 0 σ1) ∧ (i64 (lan (lsr r2 a1) 1) = 0 → (0 ≤ i32 a1 ∧ i32 a1 < 48) ∧ ((¬ i64 (lan (σ1 9 (i32 a1)) (lxr r2 (-1))) = 0 → Q 0 σ1) ∧ (i64 (lan (σ1 9 (i32 a1)) (lxr r2 (-1))) = 0 → Q 1 σ1)))))

def V_M_pairs (σ : St) (a1 : Int) (Q : Int → St → Prop) : Prop :=
  V_M_in σ (i32 a1) 2 8 (fun (r2 : Int) (σ1 : St) => ((¬ i32 r2 = 0 → ∀ x2_3 : Int, x2_3 = σ1 1 0 → ∀ σ4 : St, σ4 = ss σ1 1 0 a1 → WL1 (fun (bk7 : Int → St → Prop) (x3_5 : Int) (σ6 : St) => ((84 ≤ i32 x3_5 → V_M_anew σ6 (fun (σ8 : St) => Q x2_3 σ8)) ∧ (i32 x3_5 < 84 → (0 ≤ i32 (2 + x3_5) ∧ i32 (2 + x3_5) < 204) ∧ ∀ σ9 : St, σ9 = ss σ6 1 (i32 (2 + x3_5)) (-1) → bk7 (x3_5 + 1) σ9))) 0 σ4) ∧ (i32 r2 = 0 → V_M_errs σ1 (-1000000001) (fun (r11 : Int) (σ10 : St) => Q r11 σ10))))

def V_M_isPlaceOf (σ : St) (a1 : Int) (a2 : Int) (Q : Int → St → Prop) : Prop :=
  V_M_in σ (i32 a1) 0 11 (fun (r2 : Int) (σ1 : St) => ((i32 r2 = 0 → Q 0 σ1) ∧ (¬ i32 r2 = 0 → V_M_gaps σ1 (fun (r4 : Int) (σ3 : St) => V_M_in σ3 (i32 a2) 0 (i32 (r4 - 1)) (fun (r6 : Int) (σ5 : St) => ((i32 r6 = 0 → Q 0 σ5) ∧ (¬ i32 r6 = 0 → Q 1 σ5)))))))

def J_M_lay_101 (a1 : Int) (a2 : Int) (a3 : Int) (Q : Int → St → Prop) (σ13 : St) : Prop :=
  V_M_held σ13 a1 a2 (fun (r15 : Int) (σ14 : St) => (0 ≤ i32 ((2 + (7 * a1)) + a2) ∧ i32 ((2 + (7 * a1)) + a2) < 204) ∧ ∀ σ16 : St, σ16 = ss σ14 1 (i32 ((2 + (7 * a1)) + a2)) a3 → V_M_anew σ16 (fun (σ17 : St) => Q r15 σ17))
def J_M_lay_78 (a1 : Int) (a2 : Int) (a3 : Int) (Q : Int → St → Prop) (y0_7 : Int) (y0_11 : Int) (σ12 : St) : Prop :=
  ((i32 a3 < 0 → J_M_lay_101 a1 a2 a3 Q σ12) ∧ (0 ≤ i32 a3 → ((¬ i32 y0_7 = 0 → V_M_errs σ12 (-1000000003) (fun (r19 : Int) (σ18 : St) => Q r19 σ18)) ∧ (i32 y0_7 = 0 → ((i32 y0_11 = 0 → J_M_lay_101 a1 a2 a3 Q σ12) ∧ (¬ i32 y0_11 = 0 → V_M_errs σ12 (-1000000003) (fun (r21 : Int) (σ20 : St) => Q r21 σ20)))))))
def J_M_lay_77 (a1 : Int) (a2 : Int) (a3 : Int) (Q : Int → St → Prop) (y0_7 : Int) (σ22 : St) : Prop :=
  J_M_lay_78 a1 a2 a3 Q y0_7 0 σ22
def J_M_lay_50 (a1 : Int) (a2 : Int) (a3 : Int) (Q : Int → St → Prop) (y0_7 : Int) (σ8 : St) : Prop :=
  V_M_gaps σ8 (fun (r10 : Int) (σ9 : St) => ((i32 (r10 - 1) ≤ i32 a2 → J_M_lay_77 a1 a2 a3 Q y0_7 σ9) ∧ (i32 a2 < i32 (r10 - 1) → V_M_held σ9 a1 (a2 + 1) (fun (r24 : Int) (σ23 : St) => ((i32 r24 < 0 → J_M_lay_77 a1 a2 a3 Q y0_7 σ23) ∧ (0 ≤ i32 r24 → J_M_lay_78 a1 a2 a3 Q y0_7 1 σ23))))))
def J_M_lay_49 (a1 : Int) (a2 : Int) (a3 : Int) (Q : Int → St → Prop) (σ25 : St) : Prop :=
  J_M_lay_50 a1 a2 a3 Q 0 σ25
def V_M_lay (σ : St) (a1 : Int) (a2 : Int) (a3 : Int) (Q : Int → St → Prop) : Prop :=
  V_M_isPlaceOf σ a1 a2 (fun (r2 : Int) (σ1 : St) => ((i32 r2 = 0 → V_M_errs σ1 (-1000000001) (fun (r4 : Int) (σ3 : St) => Q r4 σ3)) ∧ (¬ i32 r2 = 0 → V_M_in σ1 (i32 a3) (-1) 5 (fun (r6 : Int) (σ5 : St) => ((¬ i32 r6 = 0 → ((i32 a2 ≤ 0 → J_M_lay_49 a1 a2 a3 Q σ5) ∧ (0 < i32 a2 → V_M_held σ5 a1 (a2 - 1) (fun (r27 : Int) (σ26 : St) => ((i32 r27 < 0 → J_M_lay_49 a1 a2 a3 Q σ26) ∧ (0 ≤ i32 r27 → J_M_lay_50 a1 a2 a3 Q 1 σ26)))))) ∧ (i32 r6 = 0 → V_M_errs σ5 (-1000000001) (fun (r29 : Int) (σ28 : St) => Q r29 σ28)))))))

def V_M_look (σ : St) (a1 : Int) (a2 : Int) (Q : Int → St → Prop) : Prop :=
  V_M_isPlaceOf σ a1 a2 (fun (r2 : Int) (σ1 : St) => ((i32 r2 = 0 → V_M_errs σ1 (-1000000001) (fun (r4 : Int) (σ3 : St) => Q r4 σ3)) ∧ (¬ i32 r2 = 0 → V_M_held σ1 a1 a2 (fun (r6 : Int) (σ5 : St) => Q r6 σ5))))

def V_M_feed (σ : St) (a1 : Int) (Q : Int → St → Prop) : Prop :=
  V_M_in σ (i32 a1) 0 255 (fun (r2 : Int) (σ1 : St) => ((¬ i32 r2 = 0 → ((¬ i32 (σ1 0 12) = 120 → (0 ≤ i32 (σ1 0 12) ∧ i32 (σ1 0 12) < 120) ∧ ∀ σ3 : St, σ3 = ss σ1 10 (i32 (σ1 0 12)) a1 → ∀ σ4 : St, σ4 = ss σ3 0 12 ((σ3 0 12) + 1) → Q (σ4 0 12) σ4) ∧ (i32 (σ1 0 12) = 120 → V_M_errs σ1 (-1000000004) (fun (r6 : Int) (σ5 : St) => Q r6 σ5)))) ∧ (i32 r2 = 0 → V_M_errs σ1 (-1000000001) (fun (r8 : Int) (σ7 : St) => Q r8 σ7))))

def J_M_prickingFault_116 (Q : Int → St → Prop) (x2_4 : Int) (bk6 : Int → St → Prop) (σ12 : St) : Prop :=
  ((¬ (1 : Int) = 0 → bk6 (x2_4 + 1) σ12) ∧ ((1 : Int) = 0 → Q x2_4 σ12))
def J_M_prickingFault_96 (Q : Int → St → Prop) (x2_4 : Int) (bk6 : Int → St → Prop) (σ13 : St) : Prop :=
  ((¬ (0 : Int) = 0 → bk6 (x2_4 + 1) σ13) ∧ ((0 : Int) = 0 → Q x2_4 σ13))
def J_M_prickingFault_67 (Q : Int → St → Prop) (x1_3 : Int) (x2_4 : Int) (bk6 : Int → St → Prop) (x3_7 : Int) (r9 : Int) (y0_10 : Int) (σ11 : St) : Prop :=
  (¬ i32 x1_3 = 0) ∧ ((¬ i32 (irm x2_4 x1_3) = i32 (x1_3 - 1) → ((i32 x3_7 = 46 → J_M_prickingFault_116 Q x2_4 bk6 σ11) ∧ (¬ i32 x3_7 = 46 → ((i32 r9 = 0 → ((¬ (0 : Int) = 0 → bk6 (x2_4 + 1) σ11) ∧ ((0 : Int) = 0 → Q x2_4 σ11))) ∧ (¬ i32 r9 = 0 → ((¬ i32 y0_10 = 0 → ((¬ (0 : Int) = 0 → bk6 (x2_4 + 1) σ11) ∧ ((0 : Int) = 0 → Q x2_4 σ11))) ∧ (i32 y0_10 = 0 → J_M_prickingFault_116 Q x2_4 bk6 σ11))))))) ∧ (i32 (irm x2_4 x1_3) = i32 (x1_3 - 1) → ((¬ i32 x3_7 = 47 → J_M_prickingFault_96 Q x2_4 bk6 σ11) ∧ (i32 x3_7 = 47 → (¬ i32 x1_3 = 0) ∧ ((11 ≤ i32 (idv x2_4 x1_3) → J_M_prickingFault_96 Q x2_4 bk6 σ11) ∧ (i32 (idv x2_4 x1_3) < 11 → ((¬ (1 : Int) = 0 → bk6 (x2_4 + 1) σ11) ∧ ((1 : Int) = 0 → Q x2_4 σ11))))))))
def J_M_prickingFault_66 (Q : Int → St → Prop) (x1_3 : Int) (x2_4 : Int) (bk6 : Int → St → Prop) (x3_7 : Int) (r9 : Int) (σ14 : St) : Prop :=
  J_M_prickingFault_67 Q x1_3 x2_4 bk6 x3_7 r9 0 σ14
def V_M_prickingFault (σ : St) (Q : Int → St → Prop) : Prop :=
  V_M_gaps σ (fun (r2 : Int) (σ1 : St) => ∀ x1_3 : Int, x1_3 = r2 + 1 → WL1 (fun (bk6 : Int → St → Prop) (x2_4 : Int) (σ5 : St) => ((i32 (σ5 0 12) ≤ i32 x2_4 → (¬ i32 x1_3 = 0) ∧ ((¬ i32 (irm (σ5 0 12) x1_3) = i32 (x1_3 - 1) → Q (σ5 0 12) σ5) ∧ (i32 (irm (σ5 0 12) x1_3) = i32 (x1_3 - 1) → Q (-1) σ5))) ∧ (i32 x2_4 < i32 (σ5 0 12) → (0 ≤ i32 x2_4 ∧ i32 x2_4 < 120) ∧ ∀ x3_7 : Int, x3_7 = σ5 10 (i32 x2_4) → V_M_in σ5 (i32 x3_7) 97 102 (fun (r9 : Int) (σ8 : St) => ((i32 x2_4 ≤ 0 → J_M_prickingFault_66 Q x1_3 x2_4 bk6 x3_7 r9 σ8) ∧ (0 < i32 x2_4 → (0 ≤ i32 (x2_4 - 1) ∧ i32 (x2_4 - 1) < 120) ∧ V_M_in σ8 (i32 (σ8 10 (i32 (x2_4 - 1)))) 97 102 (fun (r16 : Int) (σ15 : St) => ((i32 r16 = 0 → J_M_prickingFault_66 Q x1_3 x2_4 bk6 x3_7 r9 σ15) ∧ (¬ i32 r16 = 0 → J_M_prickingFault_67 Q x1_3 x2_4 bk6 x3_7 r9 1 σ15))))))))) 0 σ1)

def V_M_read (σ : St) (Q : Int → St → Prop) : Prop :=
  V_M_prickingFault σ (fun (r2 : Int) (σ1 : St) => ∀ x2_3 : Int, x2_3 = σ1 0 12 → ∀ σ4 : St, σ4 = ss σ1 0 12 0 → ((i32 r2 < 0 → V_M_gaps σ4 (fun (r6 : Int) (σ5 : St) => ∀ x3_7 : Int, x3_7 = r6 + 1 → WL1 (fun (bk10 : Int → St → Prop) (x4_8 : Int) (σ9 : St) => ((84 ≤ i32 x4_8 → WL1 (fun (bk13 : Int → St → Prop) (x4_11 : Int) (σ12 : St) => ((i32 x2_3 ≤ i32 x4_11 → V_M_anew σ12 (fun (σ14 : St) => Q (σ14 0 5) σ14)) ∧ (i32 x4_11 < i32 x2_3 → (¬ i32 x3_7 = 0) ∧ ((i32 (x3_7 - 1) ≤ i32 (irm x4_11 x3_7) → bk13 (x4_11 + 1) σ12) ∧ (i32 (irm x4_11 x3_7) < i32 (x3_7 - 1) → (0 ≤ i32 x4_11 ∧ i32 x4_11 < 120) ∧ ((i32 (σ12 10 (i32 x4_11)) = 46 → bk13 (x4_11 + 1) σ12) ∧ (¬ i32 (σ12 10 (i32 x4_11)) = 46 → (¬ i32 x3_7 = 0) ∧ (¬ i32 x3_7 = 0) ∧ (0 ≤ i32 x4_11 ∧ i32 x4_11 < 120) ∧ (0 ≤ i32 ((2 + (7 * (idv x4_11 x3_7))) + (irm x4_11 x3_7)) ∧ i32 ((2 + (7 * (idv x4_11 x3_7))) + (irm x4_11 x3_7)) < 204) ∧ ∀ σ15 : St, σ15 = ss σ12 1 (i32 ((2 + (7 * (idv x4_11 x3_7))) + (irm x4_11 x3_7))) ((σ12 10 (i32 x4_11)) - 97) → bk13 (x4_11 + 1) σ15))))))) 0 σ9) ∧ (i32 x4_8 < 84 → (0 ≤ i32 (2 + x4_8) ∧ i32 (2 + x4_8) < 204) ∧ ∀ σ16 : St, σ16 = ss σ9 1 (i32 (2 + x4_8)) (-1) → bk10 (x4_8 + 1) σ16))) 0 σ5)) ∧ (0 ≤ i32 r2 → Q ((-10) - r2) σ4)))

def V_M_isTold (σ : St) (a1 : Int) (Q : Int → St → Prop) : Prop :=
  ((i32 a1 = 99 → Q 1 σ) ∧ (¬ i32 a1 = 99 → ((i32 a1 = 67 → Q 1 σ) ∧ (¬ i32 a1 = 67 → ((i32 a1 = 116 → Q 1 σ) ∧ (¬ i32 a1 = 116 → ((¬ i32 a1 = 84 → Q 0 σ) ∧ (i32 a1 = 84 → Q 1 σ))))))))

def J_M_spell_60 (a1 : Int) (Q : Int → St → Prop) (x2_3 : Int) (x3_5 : Int) (σ8 : St) : Prop :=
  ((i32 x2_3 = 0 → Q ((-10) - x3_5) σ8) ∧ (¬ i32 x2_3 = 0 → ((i32 x2_3 ≤ i32 x3_5 → (0 ≤ i32 (86 + (9 * a1)) ∧ i32 (86 + (9 * a1)) < 204) ∧ ∀ σ9 : St, σ9 = ss σ8 1 (i32 (86 + (9 * a1))) x2_3 → WL1 (fun (bk12 : Int → St → Prop) (x4_10 : Int) (σ11 : St) => ((i32 x2_3 ≤ i32 x4_10 → V_M_anew σ11 (fun (σ13 : St) => Q x2_3 σ13)) ∧ (i32 x4_10 < i32 x2_3 → (0 ≤ i32 x4_10 ∧ i32 x4_10 < 120) ∧ (0 ≤ i32 (((86 + (9 * a1)) + 1) + x4_10) ∧ i32 (((86 + (9 * a1)) + 1) + x4_10) < 204) ∧ ∀ σ14 : St, σ14 = ss σ11 1 (i32 (((86 + (9 * a1)) + 1) + x4_10)) (σ11 10 (i32 x4_10)) → bk12 (x4_10 + 1) σ14))) 0 σ9) ∧ (i32 x3_5 < i32 x2_3 → Q ((-10) - x3_5) σ8))))
def V_M_spell (σ : St) (a1 : Int) (Q : Int → St → Prop) : Prop :=
  V_M_in σ (i32 a1) 0 5 (fun (r2 : Int) (σ1 : St) => ((¬ i32 r2 = 0 → ∀ x2_3 : Int, x2_3 = σ1 0 12 → ∀ σ4 : St, σ4 = ss σ1 0 12 0 → WL1 (fun (bk7 : Int → St → Prop) (x3_5 : Int) (σ6 : St) => ((i32 x2_3 ≤ i32 x3_5 → J_M_spell_60 a1 Q x2_3 x3_5 σ6) ∧ (i32 x3_5 < i32 x2_3 → ((8 ≤ i32 x3_5 → J_M_spell_60 a1 Q x2_3 x3_5 σ6) ∧ (i32 x3_5 < 8 → (0 ≤ i32 x3_5 ∧ i32 x3_5 < 120) ∧ V_M_isTold σ6 (σ6 10 (i32 x3_5)) (fun (r16 : Int) (σ15 : St) => ((i32 r16 = 0 → J_M_spell_60 a1 Q x2_3 x3_5 σ15) ∧ (¬ i32 r16 = 0 → bk7 (x3_5 + 1) σ15)))))))) 0 σ4) ∧ (i32 r2 = 0 → V_M_errs σ1 (-1000000001) (fun (r18 : Int) (σ17 : St) => Q r18 σ17))))

def V_M_letterOf (σ : St) (a1 : Int) (a2 : Int) (Q : Int → St → Prop) : Prop :=
  (0 ≤ i32 (((86 + (9 * a1)) + 1) + a2) ∧ i32 (((86 + (9 * a1)) + 1) + a2) < 204) ∧ Q (σ 1 (i32 (((86 + (9 * a1)) + 1) + a2))) σ

def V_M_letter (σ : St) (a1 : Int) (a2 : Int) (Q : Int → St → Prop) : Prop :=
  V_M_in σ (i32 a1) 0 5 (fun (r2 : Int) (σ1 : St) => ((i32 r2 = 0 → V_M_errs σ1 (-1000000001) (fun (r4 : Int) (σ3 : St) => Q r4 σ3)) ∧ (¬ i32 r2 = 0 → (0 ≤ i32 (86 + (9 * a1)) ∧ i32 (86 + (9 * a1)) < 204) ∧ V_M_in σ1 (i32 a2) 0 (i32 ((σ1 1 (i32 (86 + (9 * a1)))) - 1)) (fun (r6 : Int) (σ5 : St) => ((i32 r6 = 0 → V_M_errs σ5 (-1000000001) (fun (r8 : Int) (σ7 : St) => Q r8 σ7)) ∧ (¬ i32 r6 = 0 → V_M_letterOf σ5 a1 a2 (fun (r10 : Int) (σ9 : St) => Q r10 σ9)))))))

def V_M_begins (σ : St) (Q : St → Prop) : Prop :=
  ∀ σ1 : St, σ1 = ss σ 0 15 0 → WL1 (fun (bk4 : Int → St → Prop) (x1_2 : Int) (σ3 : St) => ((16 ≤ i32 x1_2 → Q σ3) ∧ (i32 x1_2 < 16 → (0 ≤ i32 x1_2 ∧ i32 x1_2 < 16) ∧ ∀ σ5 : St, σ5 = ss σ3 11 (i32 x1_2) x1_2 → (0 ≤ i32 x1_2 ∧ i32 x1_2 < 16) ∧ ∀ σ6 : St, σ6 = ss σ5 12 (i32 x1_2) 0 → bk4 (x1_2 + 1) σ6))) 0 σ1

def J_M_cross_97 (a3 : Int) (Q : St → Prop) (σ9 : St) (y2_10 : Int) (σ11 : St) : Prop :=
  (0 ≤ i32 (σ9 0 15) ∧ i32 (σ9 0 15) < 800) ∧ ∀ σ12 : St, σ12 = ss σ11 16 (i32 (σ9 0 15)) y2_10 → (0 ≤ i32 (σ12 0 15) ∧ i32 (σ12 0 15) < 800) ∧ ∀ σ13 : St, σ13 = ss σ12 17 (i32 (σ12 0 15)) a3 → (0 ≤ i32 (σ13 0 15) ∧ i32 (σ13 0 15) < 800) ∧ (0 ≤ i32 (σ13 15 (i32 (σ13 0 15))) ∧ i32 (σ13 15 (i32 (σ13 0 15))) < 16) ∧ (0 ≤ i32 (σ13 15 (i32 (σ13 0 15))) ∧ i32 (σ13 15 (i32 (σ13 0 15))) < 16) ∧ ∀ σ14 : St, σ14 = ss σ13 12 (i32 (σ13 15 (i32 (σ13 0 15)))) ((σ13 12 (i32 (σ13 15 (i32 (σ13 0 15))))) + 2) → (0 ≤ i32 (σ14 0 15) ∧ i32 (σ14 0 15) < 800) ∧ (0 ≤ i32 (σ14 16 (i32 (σ14 0 15))) ∧ i32 (σ14 16 (i32 (σ14 0 15))) < 16) ∧ (0 ≤ i32 (σ14 16 (i32 (σ14 0 15))) ∧ i32 (σ14 16 (i32 (σ14 0 15))) < 16) ∧ ∀ σ15 : St, σ15 = ss σ14 12 (i32 (σ14 16 (i32 (σ14 0 15)))) ((σ14 12 (i32 (σ14 16 (i32 (σ14 0 15))))) + 1) → ∀ σ16 : St, σ16 = ss σ15 0 15 ((σ15 0 15) + 1) → Q σ16
def J_M_cross_76 (a2 : Int) (a3 : Int) (Q : St → Prop) (x4_1 : Int) (x5_2 : Int) (σ6 : St) (y2_7 : Int) (σ8 : St) : Prop :=
  (0 ≤ i32 (σ6 0 15) ∧ i32 (σ6 0 15) < 800) ∧ ∀ σ9 : St, σ9 = ss σ8 15 (i32 (σ6 0 15)) y2_7 → ((¬ i32 a2 = 1 → J_M_cross_97 a3 Q σ9 x4_1 σ9) ∧ (i32 a2 = 1 → J_M_cross_97 a3 Q σ9 x5_2 σ9))
def V_M_cross (σ : St) (a1 : Int) (a2 : Int) (a3 : Int) (Q : St → Prop) : Prop :=
  (0 ≤ i32 a1 ∧ i32 a1 < 16) ∧ ∀ x4_1 : Int, x4_1 = σ 11 (i32 a1) → (0 ≤ i32 (a1 + 1) ∧ i32 (a1 + 1) < 16) ∧ ∀ x5_2 : Int, x5_2 = σ 11 (i32 (a1 + 1)) → (0 ≤ i32 a1 ∧ i32 a1 < 16) ∧ ∀ σ3 : St, σ3 = ss σ 11 (i32 a1) x5_2 → (0 ≤ i32 (a1 + 1) ∧ i32 (a1 + 1) < 16) ∧ ∀ σ4 : St, σ4 = ss σ3 11 (i32 (a1 + 1)) x4_1 → (0 ≤ i32 (σ4 0 15) ∧ i32 (σ4 0 15) < 800) ∧ ∀ σ5 : St, σ5 = ss σ4 13 (i32 (σ4 0 15)) a1 → (0 ≤ i32 (σ5 0 15) ∧ i32 (σ5 0 15) < 800) ∧ ∀ σ6 : St, σ6 = ss σ5 14 (i32 (σ5 0 15)) a2 → ((¬ i32 a2 = 1 → J_M_cross_76 a2 a3 Q x4_1 x5_2 σ6 x5_2 σ6) ∧ (i32 a2 = 1 → J_M_cross_76 a2 a3 Q x4_1 x5_2 σ6 x4_1 σ6))

def J_M_spells_43 (a2 : Int) (a3 : Int) (x4_1 : Int) (bk3 : Int → St → Prop) (r5 : Int) (σ6 : St) : Prop :=
  ((¬ i32 r5 = 99 → V_M_cross σ6 ((2 * a2) + 1) 2 a3 (fun (σ7 : St) => bk3 (x4_1 + 1) σ7)) ∧ (i32 r5 = 99 → V_M_cross σ6 ((2 * a2) + 1) 1 a3 (fun (σ8 : St) => bk3 (x4_1 + 1) σ8)))
def J_M_spells_84 (a2 : Int) (a3 : Int) (x4_1 : Int) (bk3 : Int → St → Prop) (r5 : Int) (y2_9 : Int) (σ10 : St) : Prop :=
  V_M_cross σ10 (2 * a2) y2_9 a3 (fun (σ11 : St) => ((¬ i32 r5 = 116 → V_M_cross σ11 ((2 * a2) + 2) 1 a3 (fun (σ12 : St) => bk3 (x4_1 + 1) σ12)) ∧ (i32 r5 = 116 → V_M_cross σ11 ((2 * a2) + 2) 2 a3 (fun (σ13 : St) => bk3 (x4_1 + 1) σ13))))
def V_M_spells (σ : St) (a1 : Int) (a2 : Int) (a3 : Int) (Q : St → Prop) : Prop :=
  WL1 (fun (bk3 : Int → St → Prop) (x4_1 : Int) (σ2 : St) => (0 ≤ i32 (86 + (9 * a1)) ∧ i32 (86 + (9 * a1)) < 204) ∧ ((i32 (σ2 1 (i32 (86 + (9 * a1)))) ≤ i32 x4_1 → Q σ2) ∧ (i32 x4_1 < i32 (σ2 1 (i32 (86 + (9 * a1)))) → V_M_letterOf σ2 a1 x4_1 (fun (r5 : Int) (σ4 : St) => ((i32 r5 = 99 → J_M_spells_43 a2 a3 x4_1 bk3 r5 σ4) ∧ (¬ i32 r5 = 99 → ((¬ i32 r5 = 67 → ((¬ i32 r5 = 116 → J_M_spells_84 a2 a3 x4_1 bk3 r5 1 σ4) ∧ (i32 r5 = 116 → J_M_spells_84 a2 a3 x4_1 bk3 r5 2 σ4))) ∧ (i32 r5 = 67 → J_M_spells_43 a2 a3 x4_1 bk3 r5 σ4)))))))) 0 σ

def J_M_works_48 (a1 : Int) (Q : St → Prop) (σ5 : St) : Prop :=
  (0 ≤ i32 a1 ∧ i32 a1 < 48) ∧ (0 ≤ i32 a1 ∧ i32 a1 < 48) ∧ V_M_spells σ5 (σ5 7 (i32 a1)) (σ5 6 (i32 a1)) a1 (fun (σ6 : St) => Q σ6)
def V_M_works (σ : St) (a1 : Int) (a2 : Int) (Q : St → Prop) : Prop :=
  (0 ≤ i32 a1 ∧ i32 a1 < 48) ∧ ∀ x3_1 : Int, x3_1 = 2 * (σ 6 (i32 a1)) → WL1 (fun (bk4 : Int → St → Prop) (x3_2 : Int) (σ3 : St) => (0 ≤ i32 a1 ∧ i32 a1 < 48) ∧ ((i32 ((2 * (σ3 6 (i32 a1))) + 4) ≤ i32 x3_2 → J_M_works_48 a1 Q σ3) ∧ (i32 x3_2 < i32 ((2 * (σ3 6 (i32 a1))) + 4) → ((i32 a2 = 0 → J_M_works_48 a1 Q σ3) ∧ (¬ i32 a2 = 0 → (0 ≤ i32 x3_2 ∧ i32 x3_2 < 16) ∧ (0 ≤ i32 (σ3 11 (i32 x3_2)) ∧ i32 (σ3 11 (i32 x3_2)) < 16) ∧ (0 ≤ i32 (σ3 11 (i32 x3_2)) ∧ i32 (σ3 11 (i32 x3_2)) < 16) ∧ ∀ σ7 : St, σ7 = ss σ3 12 (i32 (σ3 11 (i32 x3_2))) ((σ3 12 (i32 (σ3 11 (i32 x3_2)))) + 1) → bk4 (x3_2 + 1) σ7))))) x3_1 σ

def V_M_theWork (σ : St) (Q : St → Prop) : Prop :=
  V_M_begins σ (fun (σ1 : St) => WL1 (fun (bk4 : Int → St → Prop) (x1_2 : Int) (σ3 : St) => ((i32 (σ3 1 1) ≤ i32 x1_2 → Q σ3) ∧ (i32 x1_2 < i32 (σ3 1 1) → (0 ≤ i32 (156 + x1_2) ∧ i32 (156 + x1_2) < 204) ∧ V_M_works σ3 (σ3 1 (i32 (156 + x1_2))) 1 (fun (σ5 : St) => bk4 (x1_2 + 1) σ5)))) 0 σ1)

def V_M_first (σ : St) (a1 : Int) (Q : St → Prop) : Prop :=
  V_M_begins σ (fun (σ1 : St) => WL1 (fun (bk4 : Int → St → Prop) (x2_2 : Int) (σ3 : St) => ((i32 a1 ≤ i32 x2_2 → Q σ3) ∧ (i32 x2_2 < i32 a1 → V_M_works σ3 x2_2 1 (fun (σ5 : St) => bk4 (x2_2 + 1) σ5)))) 0 σ1)

def V_M_whole (σ : St) (a1 : Int) (Q : St → Prop) : Prop :=
  ((¬ i32 a1 = 0 → V_M_first σ (σ 0 5) (fun (σ1 : St) => Q σ1)) ∧ (i32 a1 = 0 → V_M_theWork σ (fun (σ2 : St) => Q σ2)))

def V_M_drop (σ : St) (a1 : Int) (Q : St → Prop) : Prop :=
  ∀ σ1 : St, σ1 = ss σ 0 21 ((σ 0 21) - 1) → WL1 (fun (bk4 : Int → St → Prop) (x2_2 : Int) (σ3 : St) => ((i32 (σ3 0 21) ≤ i32 x2_2 → Q σ3) ∧ (i32 x2_2 < i32 (σ3 0 21) → (0 ≤ i32 (x2_2 + 1) ∧ i32 (x2_2 + 1) < 800) ∧ (0 ≤ i32 x2_2 ∧ i32 x2_2 < 800) ∧ ∀ σ5 : St, σ5 = ss σ3 18 (i32 x2_2) (σ3 18 (i32 (x2_2 + 1))) → (0 ≤ i32 (x2_2 + 1) ∧ i32 (x2_2 + 1) < 800) ∧ (0 ≤ i32 x2_2 ∧ i32 x2_2 < 800) ∧ ∀ σ6 : St, σ6 = ss σ5 19 (i32 x2_2) (σ5 19 (i32 (x2_2 + 1))) → bk4 (x2_2 + 1) σ6))) a1 σ1

def J_M_comes_71 (a1 : Int) (a2 : Int) (Q : St → Prop) (σ6 : St) : Prop :=
  (0 ≤ i32 (σ6 0 21) ∧ i32 (σ6 0 21) < 800) ∧ ∀ σ7 : St, σ7 = ss σ6 18 (i32 (σ6 0 21)) a1 → (0 ≤ i32 (σ7 0 21) ∧ i32 (σ7 0 21) < 800) ∧ ∀ σ8 : St, σ8 = ss σ7 19 (i32 (σ7 0 21)) a2 → ∀ σ9 : St, σ9 = ss σ8 0 21 ((σ8 0 21) + 1) → Q σ9
def J_M_comes_41 (a1 : Int) (a2 : Int) (Q : St → Prop) (x3_2 : Int) (σ5 : St) : Prop :=
  ((i32 x3_2 < 0 → J_M_comes_71 a1 a2 Q σ5) ∧ (0 ≤ i32 x3_2 → (0 ≤ i32 x3_2 ∧ i32 x3_2 < 800) ∧ ((¬ i32 (σ5 18 (i32 x3_2)) = i32 a1 → J_M_comes_71 a1 a2 Q σ5) ∧ (i32 (σ5 18 (i32 x3_2)) = i32 a1 → (0 ≤ i32 x3_2 ∧ i32 x3_2 < 800) ∧ ((i32 (σ5 19 (i32 x3_2)) = i32 a2 → J_M_comes_71 a1 a2 Q σ5) ∧ (¬ i32 (σ5 19 (i32 x3_2)) = i32 a2 → V_M_drop σ5 x3_2 (fun (σ10 : St) => Q σ10)))))))
def V_M_comes (σ : St) (a1 : Int) (a2 : Int) (Q : St → Prop) : Prop :=
  ∀ x3_1 : Int, x3_1 = (σ 0 21) - 1 → WL1 (fun (bk4 : Int → St → Prop) (x3_2 : Int) (σ3 : St) => ((i32 x3_2 < 0 → J_M_comes_41 a1 a2 Q x3_2 σ3) ∧ (0 ≤ i32 x3_2 → (0 ≤ i32 x3_2 ∧ i32 x3_2 < 800) ∧ ((i32 (σ3 18 (i32 x3_2)) < i32 (a1 - 1) → bk4 (x3_2 + (-1)) σ3) ∧ (i32 (a1 - 1) ≤ i32 (σ3 18 (i32 x3_2)) → (0 ≤ i32 x3_2 ∧ i32 x3_2 < 800) ∧ ((i32 (σ3 18 (i32 x3_2)) ≤ i32 (a1 + 1) → J_M_comes_41 a1 a2 Q x3_2 σ3) ∧ (i32 (a1 + 1) < i32 (σ3 18 (i32 x3_2)) → bk4 (x3_2 + (-1)) σ3))))))) x3_1 σ

def V_M_layers (σ : St) (Q : Int → St → Prop) : Prop :=
  ∀ σ1 : St, σ1 = ss σ 0 21 0 → WL1 (fun (bk4 : Int → St → Prop) (x1_2 : Int) (σ3 : St) => ((i32 (σ3 0 15) ≤ i32 x1_2 → WL2 (fun (bk8 : Int → Int → St → Prop) (x2_5 : Int) (x1_6 : Int) (σ7 : St) => ((i32 (σ7 0 21) ≤ i32 x2_5 → Q x1_6 σ7) ∧ (i32 x2_5 < i32 (σ7 0 21) → (0 ≤ i32 x2_5 ∧ i32 x2_5 < 800) ∧ ∀ σ9 : St, σ9 = ss σ7 20 (i32 x2_5) 0 → WL1 (fun (bk12 : Int → St → Prop) (x3_10 : Int) (σ11 : St) => ((i32 x2_5 ≤ i32 x3_10 → (0 ≤ i32 x2_5 ∧ i32 x2_5 < 800) ∧ ((i32 (σ11 20 (i32 x2_5)) < i32 x1_6 → bk8 (x2_5 + 1) x1_6 σ11) ∧ (i32 x1_6 ≤ i32 (σ11 20 (i32 x2_5)) → (0 ≤ i32 x2_5 ∧ i32 x2_5 < 800) ∧ ∀ x1_13 : Int, x1_13 = (σ11 20 (i32 x2_5)) + 1 → bk8 (x2_5 + 1) x1_13 σ11))) ∧ (i32 x3_10 < i32 x2_5 → (0 ≤ i32 x3_10 ∧ i32 x3_10 < 800) ∧ (0 ≤ i32 x2_5 ∧ i32 x2_5 < 800) ∧ ∀ x4_14 : Int, x4_14 = (σ11 18 (i32 x3_10)) - (σ11 18 (i32 x2_5)) → ((i32 x4_14 ≤ (-2) → bk12 (x3_10 + 1) σ11) ∧ ((-2) < i32 x4_14 → ((2 ≤ i32 x4_14 → bk12 (x3_10 + 1) σ11) ∧ (i32 x4_14 < 2 → (0 ≤ i32 x3_10 ∧ i32 x3_10 < 800) ∧ (0 ≤ i32 x2_5 ∧ i32 x2_5 < 800) ∧ ((i32 (σ11 20 (i32 x3_10)) < i32 (σ11 20 (i32 x2_5)) → bk12 (x3_10 + 1) σ11) ∧ (i32 (σ11 20 (i32 x2_5)) ≤ i32 (σ11 20 (i32 x3_10)) → (0 ≤ i32 x3_10 ∧ i32 x3_10 < 800) ∧ (0 ≤ i32 x2_5 ∧ i32 x2_5 < 800) ∧ ∀ σ15 : St, σ15 = ss σ11 20 (i32 x2_5) ((σ11 20 (i32 x3_10)) + 1) → bk12 (x3_10 + 1) σ15))))))))) 0 σ9))) 0 0 σ3) ∧ (i32 x1_2 < i32 (σ3 0 15) → (0 ≤ i32 x1_2 ∧ i32 x1_2 < 800) ∧ (0 ≤ i32 x1_2 ∧ i32 x1_2 < 800) ∧ V_M_comes σ3 (σ3 13 (i32 x1_2)) (σ3 14 (i32 x1_2)) (fun (σ16 : St) => bk4 (x1_2 + 1) σ16)))) 0 σ1

def V_M_signIn (σ : St) (a1 : Int) (a2 : Int) (Q : Int → St → Prop) : Prop :=
  WL1 (fun (bk3 : Int → St → Prop) (x3_1 : Int) (σ2 : St) => ((i32 (σ2 0 21) ≤ i32 x3_1 → Q 0 σ2) ∧ (i32 x3_1 < i32 (σ2 0 21) → (0 ≤ i32 x3_1 ∧ i32 x3_1 < 800) ∧ ((¬ i32 (σ2 18 (i32 x3_1)) = i32 a2 → bk3 (x3_1 + 1) σ2) ∧ (i32 (σ2 18 (i32 x3_1)) = i32 a2 → (0 ≤ i32 x3_1 ∧ i32 x3_1 < 800) ∧ ((¬ i32 (σ2 20 (i32 x3_1)) = i32 a1 → bk3 (x3_1 + 1) σ2) ∧ (i32 (σ2 20 (i32 x3_1)) = i32 a1 → (0 ≤ i32 x3_1 ∧ i32 x3_1 < 800) ∧ Q (σ2 19 (i32 x3_1)) σ2))))))) 0 σ

def J_M_word_159 (a1 : Int) (x4_10 : Int) (bk12 : Int → St → Prop) (σ13 : St) : Prop :=
  ∀ σ14 : St, σ14 = ss σ13 0 15 0 → V_M_spells σ14 a1 0 0 (fun (σ15 : St) => bk12 (x4_10 + 1) σ15)
def V_M_word (σ : St) (a1 : Int) (a2 : Int) (Q : Int → St → Prop) : Prop :=
  V_M_in σ (i32 a1) 0 5 (fun (r2 : Int) (σ1 : St) => ((i32 r2 = 0 → V_M_errs σ1 (-1000000001) (fun (r4 : Int) (σ3 : St) => Q r4 σ3)) ∧ (¬ i32 r2 = 0 → V_M_in σ1 (i32 a2) 0 7 (fun (r6 : Int) (σ5 : St) => ((¬ i32 r6 = 0 → ((¬ i32 a2 = 0 → V_M_begins σ5 (fun (σ7 : St) => V_M_spells σ7 a1 0 0 (fun (σ8 : St) => ∀ x3_9 : Int, x3_9 = σ8 0 15 → ((¬ i32 a2 = 1 → ((¬ i32 a2 = 2 → ((i32 a2 ≤ 3 → WL1 (fun (bk12 : Int → St → Prop) (x4_10 : Int) (σ11 : St) => ((¬ i32 (σ11 11 0) = 0 → J_M_word_159 a1 x4_10 bk12 σ11) ∧ (i32 (σ11 11 0) = 0 → ((¬ i32 (σ11 11 1) = 1 → J_M_word_159 a1 x4_10 bk12 σ11) ∧ (i32 (σ11 11 1) = 1 → ((¬ i32 (σ11 11 2) = 2 → J_M_word_159 a1 x4_10 bk12 σ11) ∧ (i32 (σ11 11 2) = 2 → ((i32 (σ11 11 3) = 3 → Q x4_10 σ11) ∧ (¬ i32 (σ11 11 3) = 3 → J_M_word_159 a1 x4_10 bk12 σ11))))))))) 1 σ8) ∧ (3 < i32 a2 → WL1 (fun (bk18 : Int → St → Prop) (x4_16 : Int) (σ17 : St) => (0 ≤ i32 x4_16 ∧ i32 x4_16 < 16) ∧ ((i32 (σ17 11 (i32 x4_16)) = i32 (a2 - 4) → Q x4_16 σ17) ∧ (¬ i32 (σ17 11 (i32 x4_16)) = i32 (a2 - 4) → bk18 (x4_16 + 1) σ17))) 0 σ8))) ∧ (i32 a2 = 2 → V_M_layers σ8 (fun (r20 : Int) (σ19 : St) => Q (σ19 0 21) σ19)))) ∧ (i32 a2 = 1 → Q x3_9 σ8))))) ∧ (i32 a2 = 0 → (0 ≤ i32 (86 + (9 * a1)) ∧ i32 (86 + (9 * a1)) < 204) ∧ Q (σ5 1 (i32 (86 + (9 * a1)))) σ5))) ∧ (i32 r6 = 0 → V_M_errs σ5 (-1000000001) (fun (r22 : Int) (σ21 : St) => Q r22 σ21)))))))

def V_M_deep (σ : St) (Q : Int → St → Prop) : Prop :=
  ((¬ i32 (σ 0 5) = 0 → (0 ≤ i32 ((σ 0 5) - 1) ∧ i32 ((σ 0 5) - 1) < 48) ∧ Q ((σ 5 (i32 ((σ 0 5) - 1))) + 1) σ) ∧ (i32 (σ 0 5) = 0 → Q 0 σ))

def V_M_chain (σ : St) (Q : Int → St → Prop) : Prop :=
  WL2 (fun (bk4 : Int → Int → St → Prop) (x2_1 : Int) (x1_2 : Int) (σ3 : St) => ((i32 (σ3 0 5) ≤ i32 x2_1 → Q x1_2 σ3) ∧ (i32 x2_1 < i32 (σ3 0 5) → (0 ≤ i32 x2_1 ∧ i32 x2_1 < 48) ∧ ((i32 (σ3 8 (i32 x2_1)) < i32 x1_2 → bk4 (x2_1 + 1) x1_2 σ3) ∧ (i32 x1_2 ≤ i32 (σ3 8 (i32 x2_1)) → (0 ≤ i32 x2_1 ∧ i32 x2_1 < 48) ∧ ∀ x1_5 : Int, x1_5 = (σ3 8 (i32 x2_1)) + 1 → bk4 (x2_1 + 1) x1_5 σ3))))) 0 0 σ

def B_M_takes (rc : St → Int → (Int → St → Prop) → Prop) (σ : St) (a1 : Int) (Q : Int → St → Prop) : Prop :=
  WL1 (fun (bk3 : Int → St → Prop) (x2_1 : Int) (σ2 : St) => ((i32 (σ2 0 5) ≤ i32 x2_1 → Q 0 σ2) ∧ (i32 x2_1 < i32 (σ2 0 5) → (0 ≤ i32 a1 ∧ i32 a1 < 48) ∧ ((i64 (lan (lsr (σ2 9 (i32 a1)) x2_1) 1) = 0 → bk3 (x2_1 + 1) σ2) ∧ (¬ i64 (lan (lsr (σ2 9 (i32 a1)) x2_1) 1) = 0 → ((¬ i64 (lan (lsr (σ2 0 26) x2_1) 1) = 1 → ∀ σ4 : St, σ4 = ss σ2 0 26 (lro (σ2 0 26) (lsh 1 x2_1)) → (0 ≤ i32 x2_1 ∧ i32 x2_1 < 48) ∧ ((i32 (σ4 21 (i32 x2_1)) < 0 → (0 ≤ i32 x2_1 ∧ i32 x2_1 < 48) ∧ ∀ σ5 : St, σ5 = ss σ4 21 (i32 x2_1) a1 → Q 1 σ5) ∧ (0 ≤ i32 (σ4 21 (i32 x2_1)) → (0 ≤ i32 x2_1 ∧ i32 x2_1 < 48) ∧ rc σ4 (σ4 21 (i32 x2_1)) (fun (r7 : Int) (σ6 : St) => ((i32 r7 = 0 → bk3 (x2_1 + 1) σ6) ∧ (¬ i32 r7 = 0 → (0 ≤ i32 x2_1 ∧ i32 x2_1 < 48) ∧ ∀ σ8 : St, σ8 = ss σ6 21 (i32 x2_1) a1 → Q 1 σ8)))))) ∧ (i64 (lan (lsr (σ2 0 26) x2_1) 1) = 1 → bk3 (x2_1 + 1) σ2))))))) 0 σ
def V_M_takes : Nat → St → Int → (Int → St → Prop) → Prop
  | 0 => fun _ _ _ => False
  | n + 1 => B_M_takes (V_M_takes n)

def V_M_wide (σ : St) (Q : Int → St → Prop) : Prop :=
  WL1 (fun (bk3 : Int → St → Prop) (x1_1 : Int) (σ2 : St) => ((i32 (σ2 0 5) ≤ i32 x1_1 → ∀ x1_4 : Int, x1_4 = σ2 0 5 → WL2 (fun (bk8 : Int → Int → St → Prop) (x2_5 : Int) (x1_6 : Int) (σ7 : St) => ((i32 (σ7 0 5) ≤ i32 x2_5 → Q x1_6 σ7) ∧ (i32 x2_5 < i32 (σ7 0 5) → ∀ σ9 : St, σ9 = ss σ7 0 26 0 → (∃ n : Nat, n ≤ 50 ∧ V_M_takes n σ9 x2_5 (fun (r11 : Int) (σ10 : St) => ((i32 r11 = 0 → bk8 (x2_5 + 1) x1_6 σ10) ∧ (¬ i32 r11 = 0 → bk8 (x2_5 + 1) (x1_6 + (-1)) σ10))))))) 0 x1_4 σ2) ∧ (i32 x1_1 < i32 (σ2 0 5) → (0 ≤ i32 x1_1 ∧ i32 x1_1 < 48) ∧ ∀ σ12 : St, σ12 = ss σ2 21 (i32 x1_1) (-1) → bk3 (x1_1 + 1) σ12))) 0 σ

def V_M_leastFree (σ : St) (Q : Int → St → Prop) : Prop :=
  WL1 (fun (bk3 : Int → St → Prop) (x1_1 : Int) (σ2 : St) => ((i32 (σ2 0 5) ≤ i32 x1_1 → Q (-1) σ2) ∧ (i32 x1_1 < i32 (σ2 0 5) → V_M_isFree σ2 x1_1 (fun (r5 : Int) (σ4 : St) => ((i32 r5 = 0 → bk3 (x1_1 + 1) σ4) ∧ (¬ i32 r5 = 0 → Q x1_1 σ4)))))) 0 σ

def V_M_freeMany (σ : St) (Q : Int → St → Prop) : Prop :=
  WL2 (fun (bk4 : Int → Int → St → Prop) (x2_1 : Int) (x1_2 : Int) (σ3 : St) => ((i32 (σ3 0 5) ≤ i32 x2_1 → Q x1_2 σ3) ∧ (i32 x2_1 < i32 (σ3 0 5) → V_M_isFree σ3 x2_1 (fun (r6 : Int) (σ5 : St) => ((i32 r6 = 0 → ∀ x1_7 : Int, x1_7 = x1_2 + 0 → bk4 (x2_1 + 1) x1_7 σ5) ∧ (¬ i32 r6 = 0 → ∀ x1_8 : Int, x1_8 = x1_2 + 1 → bk4 (x2_1 + 1) x1_8 σ5)))))) 0 0 σ

def V_M_stitches (σ : St) (a1 : Int) (Q : Int → St → Prop) : Prop :=
  ((i32 a1 = 0 → Q (σ 0 5) σ) ∧ (i32 a1 = 1 → V_M_deep σ (fun (r2 : Int) (σ1 : St) => Q r2 σ1)) ∧ (i32 a1 = 2 → V_M_chain σ (fun (r4 : Int) (σ3 : St) => Q r4 σ3)) ∧ (i32 a1 = 3 → V_M_wide σ (fun (r6 : Int) (σ5 : St) => Q r6 σ5)) ∧ (i32 a1 = 4 → V_M_freeMany σ (fun (r8 : Int) (σ7 : St) => Q r8 σ7)) ∧ (i32 a1 = 5 → Q (σ 1 1) σ) ∧ (i32 a1 = 6 → V_M_leastFree σ (fun (r10 : Int) (σ9 : St) => ((0 ≤ i32 r10 → V_M_leastFree σ9 (fun (r12 : Int) (σ11 : St) => Q r12 σ11)) ∧ (i32 r10 < 0 → V_M_errs σ9 (-1000000002) (fun (r14 : Int) (σ13 : St) => Q r14 σ13))))) ∧ ((i32 a1 < 0 ∨ 6 < i32 a1) → V_M_errs σ (-1000000001) (fun (r16 : Int) (σ15 : St) => Q r16 σ15)))

def V_M_isStitch (σ : St) (a1 : Int) (Q : Int → St → Prop) : Prop :=
  V_M_in σ a1 0 (i32 ((σ 0 5) - 1)) (fun (r2 : Int) (σ1 : St) => Q r2 σ1)

def V_M_behind (σ : St) (a1 : Int) (Q : Int → St → Prop) : Prop :=
  WL2 (fun (bk4 : Int → Int → St → Prop) (x3_1 : Int) (x2_2 : Int) (σ3 : St) => ((i32 (σ3 0 5) ≤ i32 x3_1 → Q x2_2 σ3) ∧ (i32 x3_1 < i32 (σ3 0 5) → (0 ≤ i32 x3_1 ∧ i32 x3_1 < 48) ∧ ∀ x2_5 : Int, x2_5 = x2_2 + (lan (lsr (σ3 9 (i32 x3_1)) a1) 1) → bk4 (x3_1 + 1) x2_5 σ3))) 0 0 σ

def V_M_stitch (σ : St) (a1 : Int) (a2 : Int) (Q : Int → St → Prop) : Prop :=
  V_M_isStitch σ (i32 a1) (fun (r2 : Int) (σ1 : St) => ((¬ i32 r2 = 0 → ((i32 a2 = 0 → (0 ≤ i32 a1 ∧ i32 a1 < 48) ∧ Q (σ1 5 (i32 a1)) σ1) ∧ (i32 a2 = 1 → (0 ≤ i32 a1 ∧ i32 a1 < 48) ∧ Q (σ1 6 (i32 a1)) σ1) ∧ (i32 a2 = 2 → (0 ≤ i32 a1 ∧ i32 a1 < 48) ∧ Q (σ1 7 (i32 a1)) σ1) ∧ (i32 a2 = 3 → (0 ≤ i32 a1 ∧ i32 a1 < 48) ∧ Q (σ1 8 (i32 a1)) σ1) ∧ (i32 a2 = 4 → (0 ≤ i32 a1 ∧ i32 a1 < 48) ∧ V_M_bits σ1 (σ1 9 (i32 a1)) (fun (r4 : Int) (σ3 : St) => Q r4 σ3)) ∧ (i32 a2 = 5 → V_M_behind σ1 a1 (fun (r6 : Int) (σ5 : St) => Q r6 σ5)) ∧ (i32 a2 = 6 → V_M_workedSet σ1 (fun (r8 : Int) (σ7 : St) => Q (lan (lsr r8 a1) 1) σ7)) ∧ (i32 a2 = 7 → V_M_isFree σ1 a1 (fun (r10 : Int) (σ9 : St) => ((i32 r10 = 0 → Q 0 σ9) ∧ (¬ i32 r10 = 0 → Q 1 σ9)))) ∧ ((i32 a2 < 0 ∨ 7 < i32 a2) → V_M_errs σ1 (-1000000001) (fun (r12 : Int) (σ11 : St) => Q r12 σ11)))) ∧ (i32 r2 = 0 → V_M_errs σ1 (-1000000001) (fun (r14 : Int) (σ13 : St) => Q r14 σ13))))

def V_M_ahead (σ : St) (a1 : Int) (a2 : Int) (Q : Int → St → Prop) : Prop :=
  V_M_isStitch σ (i32 a1) (fun (r2 : Int) (σ1 : St) => ((i32 r2 = 0 → V_M_errs σ1 (-1000000001) (fun (r4 : Int) (σ3 : St) => Q r4 σ3)) ∧ (¬ i32 r2 = 0 → V_M_isStitch σ1 (i32 a2) (fun (r6 : Int) (σ5 : St) => ((i32 r6 = 0 → V_M_errs σ5 (-1000000001) (fun (r8 : Int) (σ7 : St) => Q r8 σ7)) ∧ (¬ i32 r6 = 0 → (0 ≤ i32 a2 ∧ i32 a2 < 48) ∧ Q (lan (lsr (σ5 9 (i32 a2)) a1) 1) σ5))))))

def V_M_forgets (σ : St) (Q : St → Prop) : Prop :=
  WL1 (fun (bk3 : Int → St → Prop) (x1_1 : Int) (σ2 : St) => ((8192 ≤ i32 x1_1 → Q σ2) ∧ (i32 x1_1 < 8192 → (0 ≤ i32 x1_1 ∧ i32 x1_1 < 8192) ∧ ∀ σ4 : St, σ4 = ss σ2 22 (i32 x1_1) (-1) → bk3 (x1_1 + 1) σ4))) 0 σ

def J_M_ways_57 (a1 : Int) (Q : Int → St → Prop) (rc : St → Int → (Int → St → Prop) → Prop) (x2_4 : Int) (σ7 : St) : Prop :=
  (0 ≤ i32 x2_4 ∧ i32 x2_4 < 8192) ∧ ((¬ i32 (σ7 22 (i32 x2_4)) = i32 a1 → WL2 (fun (bk11 : Int → Int → St → Prop) (x5_8 : Int) (x3_9 : Int) (σ10 : St) => ((i32 (σ10 0 5) ≤ i32 x5_8 → ∀ x2_12 : Int, x2_12 = irm (isu (a1 * 40503) 7) 8192 → WL1 (fun (bk15 : Int → St → Prop) (x2_13 : Int) (σ14 : St) => (0 ≤ i32 x2_13 ∧ i32 x2_13 < 8192) ∧ ((i32 (σ14 22 (i32 x2_13)) < 0 → (0 ≤ i32 x2_13 ∧ i32 x2_13 < 8192) ∧ ∀ σ16 : St, σ16 = ss σ14 22 (i32 x2_13) a1 → (0 ≤ i32 x2_13 ∧ i32 x2_13 < 8192) ∧ ∀ σ17 : St, σ17 = ss σ16 23 (i32 x2_13) x3_9 → Q x3_9 σ17) ∧ (0 ≤ i32 (σ14 22 (i32 x2_13)) → ∀ x2_18 : Int, x2_18 = irm (x2_13 + 1) 8192 → bk15 x2_18 σ14))) x2_12 σ10) ∧ (i32 x5_8 < i32 (σ10 0 5) → ((¬ i32 (ian (isr a1 x5_8) 1) = 0 → bk11 (x5_8 + 1) x3_9 σ10) ∧ (i32 (ian (isr a1 x5_8) 1) = 0 → (0 ≤ i32 x5_8 ∧ i32 x5_8 < 48) ∧ ((¬ i64 (lan (σ10 9 (i32 x5_8)) (i32 (ixr a1 (-1)))) = 0 → bk11 (x5_8 + 1) x3_9 σ10) ∧ (i64 (lan (σ10 9 (i32 x5_8)) (i32 (ixr a1 (-1)))) = 0 → rc σ10 (iro a1 (ish 1 x5_8)) (fun (r20 : Int) (σ19 : St) => ∀ x3_21 : Int, x3_21 = x3_9 + r20 → bk11 (x5_8 + 1) x3_21 σ19)))))))) 0 0 σ7) ∧ (i32 (σ7 22 (i32 x2_4)) = i32 a1 → (0 ≤ i32 x2_4 ∧ i32 x2_4 < 8192) ∧ Q (σ7 23 (i32 x2_4)) σ7))
def B_M_ways (rc : St → Int → (Int → St → Prop) → Prop) (σ : St) (a1 : Int) (Q : Int → St → Prop) : Prop :=
  V_M_bits σ (i32 a1) (fun (r2 : Int) (σ1 : St) => ((¬ i32 r2 = i32 (σ1 0 5) → ∀ x2_3 : Int, x2_3 = irm (isu (a1 * 40503) 7) 8192 → WL1 (fun (bk6 : Int → St → Prop) (x2_4 : Int) (σ5 : St) => (0 ≤ i32 x2_4 ∧ i32 x2_4 < 8192) ∧ ((i32 (σ5 22 (i32 x2_4)) < 0 → J_M_ways_57 a1 Q rc x2_4 σ5) ∧ (0 ≤ i32 (σ5 22 (i32 x2_4)) → (0 ≤ i32 x2_4 ∧ i32 x2_4 < 8192) ∧ ((i32 (σ5 22 (i32 x2_4)) = i32 a1 → J_M_ways_57 a1 Q rc x2_4 σ5) ∧ (¬ i32 (σ5 22 (i32 x2_4)) = i32 a1 → ∀ x2_22 : Int, x2_22 = irm (x2_4 + 1) 8192 → bk6 x2_22 σ5))))) x2_3 σ1) ∧ (i32 r2 = i32 (σ1 0 5) → Q 1 σ1)))
def V_M_ways : Nat → St → Int → (Int → St → Prop) → Prop
  | 0 => fun _ _ _ => False
  | n + 1 => B_M_ways (V_M_ways n)

def V_M_orders (σ : St) (Q : Int → St → Prop) : Prop :=
  ((i32 (σ 0 5) ≤ 20 → V_M_forgets σ (fun (σ1 : St) => (∃ n : Nat, n ≤ 22 ∧ V_M_ways n σ1 0 (fun (r3 : Int) (σ2 : St) => Q r3 σ2)))) ∧ (20 < i32 (σ 0 5) → V_M_errsLong σ (-1000000004) (fun (r5 : Int) (σ4 : St) => Q r5 σ4)))

def J_M_order_156 (x7_15 : Int) (x4_16 : Int) (bk18 : Int → Int → Int → St → Prop) (r21 : Int) (y0_22 : Int) (σ23 : St) : Prop :=
  ((i32 y0_22 = 0 → ∀ x4_24 : Int, x4_24 = x4_16 - r21 → bk18 y0_22 (x7_15 + 1) x4_24 σ23) ∧ (¬ i32 y0_22 = 0 → ∀ x4_25 : Int, x4_25 = x4_16 - 0 → bk18 y0_22 (x7_15 + 1) x4_25 σ23))
def V_M_order (σ : St) (a1 : Int) (a2 : Int) (Q : Int → St → Prop) : Prop :=
  V_M_in σ (i32 a2) 0 (i32 ((σ 0 5) - 1)) (fun (r2 : Int) (σ1 : St) => ((¬ i32 r2 = 0 → ((i32 (σ1 0 5) ≤ 20 → V_M_forgets σ1 (fun (σ3 : St) => ((i64 a1 < 0 → V_M_errs σ3 (-1000000002) (fun (r5 : Int) (σ4 : St) => Q r5 σ4)) ∧ (0 ≤ i64 a1 → (∃ n : Nat, n ≤ 22 ∧ V_M_ways n σ3 0 (fun (r7 : Int) (σ6 : St) => ((i64 a1 < i64 r7 → WL4 (fun (bk13 : Int → Int → Int → Int → St → Prop) (x8_8 : Int) (x7_9 : Int) (x6_10 : Int) (x4_11 : Int) (σ12 : St) => ((i32 a2 < i32 x8_8 → Q x7_9 σ12) ∧ (i32 x8_8 ≤ i32 a2 → WL3 (fun (bk18 : Int → Int → Int → St → Prop) (x9_14 : Int) (x7_15 : Int) (x4_16 : Int) (σ17 : St) => ((¬ i32 x9_14 = 0 → ∀ x6_19 : Int, x6_19 = iro x6_10 (ish 1 x7_15) → bk13 (x8_8 + 1) x7_15 x6_19 x4_16 σ17) ∧ (i32 x9_14 = 0 → ((i32 (ian (isr x6_10 (x7_15 + 1)) 1) = 1 → bk18 x9_14 (x7_15 + 1) x4_16 σ17) ∧ (¬ i32 (ian (isr x6_10 (x7_15 + 1)) 1) = 1 → (0 ≤ i32 (x7_15 + 1) ∧ i32 (x7_15 + 1) < 48) ∧ ((i64 (lan (σ17 9 (i32 (x7_15 + 1))) (i32 (ixr x6_10 (-1)))) = 0 → (∃ n : Nat, n ≤ 22 ∧ V_M_ways n σ17 (iro x6_10 (ish 1 (x7_15 + 1))) (fun (r21 : Int) (σ20 : St) => ((i64 r21 ≤ i64 x4_16 → J_M_order_156 x7_15 x4_16 bk18 r21 0 σ20) ∧ (i64 x4_16 < i64 r21 → J_M_order_156 x7_15 x4_16 bk18 r21 1 σ20))))) ∧ (¬ i64 (lan (σ17 9 (i32 (x7_15 + 1))) (i32 (ixr x6_10 (-1)))) = 0 → bk18 x9_14 (x7_15 + 1) x4_16 σ17))))))) 0 (-1) x4_11 σ12))) 0 (-1) 0 a1 σ6) ∧ (i64 r7 ≤ i64 a1 → V_M_errs σ6 (-1000000002) (fun (r27 : Int) (σ26 : St) => Q r27 σ26))))))))) ∧ (20 < i32 (σ1 0 5) → V_M_errs σ1 (-1000000004) (fun (r29 : Int) (σ28 : St) => Q r29 σ28)))) ∧ (i32 r2 = 0 → V_M_errs σ1 (-1000000001) (fun (r31 : Int) (σ30 : St) => Q r31 σ30))))

def V_M_rankOf (σ : St) (a1 : Int) (Q : Int → St → Prop) : Prop :=
  (0 ≤ i32 a1 ∧ i32 a1 < 4) ∧ ((i32 (σ 25 (i32 a1)) = i32 (σ 0 5) → V_M_forgets σ (fun (σ1 : St) => WL3 (fun (bk6 : Int → Int → Int → St → Prop) (x5_2 : Int) (x4_3 : Int) (x2_4 : Int) (σ5 : St) => ((i32 (σ5 0 5) ≤ i32 x5_2 → Q x2_4 σ5) ∧ (i32 x5_2 < i32 (σ5 0 5) → (0 ≤ i32 ((60 * a1) + x5_2) ∧ i32 ((60 * a1) + x5_2) < 240) ∧ ∀ x6_7 : Int, x6_7 = σ5 26 (i32 ((60 * a1) + x5_2)) → V_M_isStitch σ5 x6_7 (fun (r9 : Int) (σ8 : St) => ((i32 r9 = 0 → Q (-1) σ8) ∧ (¬ i32 r9 = 0 → ((i32 (ian (isr x4_3 x6_7) 1) = 1 → Q (-1) σ8) ∧ (¬ i32 (ian (isr x4_3 x6_7) 1) = 1 → (0 ≤ i32 x6_7 ∧ i32 x6_7 < 48) ∧ ((i64 (lan (σ8 9 (i32 x6_7)) (i32 (ixr x4_3 (-1)))) = 0 → WL2 (fun (bk13 : Int → Int → St → Prop) (x8_10 : Int) (x2_11 : Int) (σ12 : St) => ((i64 x6_7 ≤ i32 x8_10 → ∀ x4_14 : Int, x4_14 = iro x4_3 (ish 1 x6_7) → bk6 (x5_2 + 1) x4_14 x2_11 σ12) ∧ (i32 x8_10 < i64 x6_7 → ((¬ i32 (ian (isr x4_3 x8_10) 1) = 0 → bk13 (x8_10 + 1) x2_11 σ12) ∧ (i32 (ian (isr x4_3 x8_10) 1) = 0 → (0 ≤ i32 x8_10 ∧ i32 x8_10 < 48) ∧ ((¬ i64 (lan (σ12 9 (i32 x8_10)) (i32 (ixr x4_3 (-1)))) = 0 → bk13 (x8_10 + 1) x2_11 σ12) ∧ (i64 (lan (σ12 9 (i32 x8_10)) (i32 (ixr x4_3 (-1)))) = 0 → (∃ n : Nat, n ≤ 22 ∧ V_M_ways n σ12 (iro x4_3 (ish 1 x8_10)) (fun (r16 : Int) (σ15 : St) => ∀ x2_17 : Int, x2_17 = x2_11 + r16 → bk13 (x8_10 + 1) x2_17 σ15))))))))) 0 x2_4 σ8) ∧ (¬ i64 (lan (σ8 9 (i32 x6_7)) (i32 (ixr x4_3 (-1)))) = 0 → Q (-1) σ8)))))))))) 0 0 0 σ1)) ∧ (¬ i32 (σ 25 (i32 a1)) = i32 (σ 0 5) → Q (-1) σ))

def V_M_isSheet (σ : St) (a1 : Int) (Q : Int → St → Prop) : Prop :=
  V_M_in σ (i32 a1) 0 3 (fun (r2 : Int) (σ1 : St) => Q r2 σ1)

def V_M_rank (σ : St) (a1 : Int) (Q : Int → St → Prop) : Prop :=
  V_M_isSheet σ a1 (fun (r2 : Int) (σ1 : St) => ((¬ i32 r2 = 0 → ((i32 (σ1 0 5) ≤ 20 → (0 ≤ i32 a1 ∧ i32 a1 < 4) ∧ ((0 ≤ i32 (σ1 24 (i32 a1)) → V_M_rankOf σ1 a1 (fun (r4 : Int) (σ3 : St) => ((0 ≤ i64 r4 → Q r4 σ3) ∧ (i64 r4 < 0 → V_M_errsLong σ3 (-1000000003) (fun (r6 : Int) (σ5 : St) => Q r6 σ5))))) ∧ (i32 (σ1 24 (i32 a1)) < 0 → V_M_errsLong σ1 (-1000000007) (fun (r8 : Int) (σ7 : St) => Q r8 σ7)))) ∧ (20 < i32 (σ1 0 5) → V_M_errsLong σ1 (-1000000004) (fun (r10 : Int) (σ9 : St) => Q r10 σ9)))) ∧ (i32 r2 = 0 → V_M_errsLong σ1 (-1000000001) (fun (r12 : Int) (σ11 : St) => Q r12 σ11))))

def V_M_wrong (σ : St) (a1 : Int) (Q : Int → St → Prop) : Prop :=
  V_M_isStitch σ a1 (fun (r2 : Int) (σ1 : St) => ((¬ i32 r2 = 0 → V_M_isFree σ1 a1 (fun (r4 : Int) (σ3 : St) => ((¬ i32 r4 = 0 → V_M_theWork σ3 (fun (σ5 : St) => V_M_works σ5 a1 1 (fun (σ6 : St) => WL1 (fun (bk9 : Int → St → Prop) (x3_7 : Int) (σ8 : St) => V_M_threads σ8 (fun (r11 : Int) (σ10 : St) => ((i32 r11 ≤ i32 x3_7 → Q 0 σ10) ∧ (i32 x3_7 < i32 r11 → (0 ≤ i32 x3_7 ∧ i32 x3_7 < 16) ∧ (0 ≤ i32 (140 + x3_7) ∧ i32 (140 + x3_7) < 204) ∧ ((i32 (σ10 12 (i32 x3_7)) ≤ i32 (σ10 1 (i32 (140 + x3_7))) → bk9 (x3_7 + 1) σ10) ∧ (i32 (σ10 1 (i32 (140 + x3_7))) < i32 (σ10 12 (i32 x3_7)) → Q (-1000000006) σ10)))))) 0 σ6))) ∧ (i32 r4 = 0 → Q (-1000000003) σ3)))) ∧ (i32 r2 = 0 → Q (-1000000001) σ1)))

def V_M_doWork (σ : St) (a1 : Int) (Q : Int → St → Prop) : Prop :=
  (0 ≤ i32 (156 + (σ 1 1)) ∧ i32 (156 + (σ 1 1)) < 204) ∧ ∀ σ1 : St, σ1 = ss σ 1 (i32 (156 + (σ 1 1))) a1 → ∀ σ2 : St, σ2 = ss σ1 1 1 ((σ1 1 1) + 1) → WL2 (fun (bk6 : Int → Int → St → Prop) (x3_3 : Int) (x2_4 : Int) (σ5 : St) => ((i32 (σ5 0 15) ≤ i32 x3_3 → Q x2_4 σ5) ∧ (i32 x3_3 < i32 (σ5 0 15) → (0 ≤ i32 x3_3 ∧ i32 x3_3 < 800) ∧ ((¬ i32 (σ5 17 (i32 x3_3)) = i32 a1 → ∀ x2_7 : Int, x2_7 = x2_4 + 0 → bk6 (x3_3 + 1) x2_7 σ5) ∧ (i32 (σ5 17 (i32 x3_3)) = i32 a1 → ∀ x2_8 : Int, x2_8 = x2_4 + 1 → bk6 (x3_3 + 1) x2_8 σ5))))) 0 0 σ2

def V_M_work (σ : St) (a1 : Int) (Q : Int → St → Prop) : Prop :=
  V_M_wrong σ (i32 a1) (fun (r2 : Int) (σ1 : St) => ((i32 r2 = 0 → V_M_doWork σ1 a1 (fun (r4 : Int) (σ3 : St) => Q r4 σ3)) ∧ (¬ i32 r2 = 0 → V_M_errs σ1 r2 (fun (r6 : Int) (σ5 : St) => Q r6 σ5))))

def V_M_works_ (σ : St) (a1 : Int) (Q : Int → St → Prop) : Prop :=
  V_M_isSheet σ a1 (fun (r2 : Int) (σ1 : St) => ((¬ i32 r2 = 0 → (0 ≤ i32 a1 ∧ i32 a1 < 4) ∧ ((0 ≤ i32 (σ1 24 (i32 a1)) → WL1 (fun (bk5 : Int → St → Prop) (x2_3 : Int) (σ4 : St) => (0 ≤ i32 a1 ∧ i32 a1 < 4) ∧ ((i32 (σ4 25 (i32 a1)) ≤ i32 x2_3 → Q x2_3 σ4) ∧ (i32 x2_3 < i32 (σ4 25 (i32 a1)) → (0 ≤ i32 ((60 * a1) + x2_3) ∧ i32 ((60 * a1) + x2_3) < 240) ∧ V_M_wrong σ4 (σ4 26 (i32 ((60 * a1) + x2_3))) (fun (r7 : Int) (σ6 : St) => ((¬ i32 r7 = 0 → Q x2_3 σ6) ∧ (i32 r7 = 0 → (0 ≤ i32 ((60 * a1) + x2_3) ∧ i32 ((60 * a1) + x2_3) < 240) ∧ V_M_doWork σ6 (σ6 26 (i32 ((60 * a1) + x2_3))) (fun (r9 : Int) (σ8 : St) => bk5 (x2_3 + 1) σ8))))))) 0 σ1) ∧ (i32 (σ1 24 (i32 a1)) < 0 → V_M_errs σ1 (-1000000007) (fun (r11 : Int) (σ10 : St) => Q r11 σ10)))) ∧ (i32 r2 = 0 → V_M_errs σ1 (-1000000001) (fun (r13 : Int) (σ12 : St) => Q r13 σ12))))

def V_M_back (σ : St) (Q : Int → St → Prop) : Prop :=
  ((¬ i32 (σ 1 1) = 0 → ∀ σ1 : St, σ1 = ss σ 1 1 ((σ 1 1) - 1) → (0 ≤ i32 (156 + (σ1 1 1)) ∧ i32 (156 + (σ1 1 1)) < 204) ∧ Q (σ1 1 (i32 (156 + (σ1 1 1)))) σ1) ∧ (i32 (σ 1 1) = 0 → V_M_errs σ (-1000000002) (fun (r3 : Int) (σ2 : St) => Q r3 σ2)))

def V_M_worked (σ : St) (a1 : Int) (Q : Int → St → Prop) : Prop :=
  V_M_in σ (i32 a1) 0 (i32 ((σ 1 1) - 1)) (fun (r2 : Int) (σ1 : St) => ((i32 r2 = 0 → V_M_errs σ1 (-1000000001) (fun (r4 : Int) (σ3 : St) => Q r4 σ3)) ∧ (¬ i32 r2 = 0 → (0 ≤ i32 (156 + a1) ∧ i32 (156 + a1) < 204) ∧ Q (σ1 1 (i32 (156 + a1))) σ1)))

def V_M_at (σ : St) (a1 : Int) (Q : Int → St → Prop) : Prop :=
  V_M_threads σ (fun (r2 : Int) (σ1 : St) => V_M_in σ1 (i32 a1) 0 (i32 (r2 - 1)) (fun (r4 : Int) (σ3 : St) => ((¬ i32 r4 = 0 → V_M_theWork σ3 (fun (σ5 : St) => (0 ≤ i32 a1 ∧ i32 a1 < 16) ∧ Q (σ5 11 (i32 a1)) σ5)) ∧ (i32 r4 = 0 → V_M_errs σ3 (-1000000001) (fun (r7 : Int) (σ6 : St) => Q r7 σ6)))))

def V_M_isThread (σ : St) (a1 : Int) (Q : Int → St → Prop) : Prop :=
  V_M_threads σ (fun (r2 : Int) (σ1 : St) => V_M_in σ1 (i32 a1) 0 (i32 (r2 - 1)) (fun (r4 : Int) (σ3 : St) => Q r4 σ3))

def V_M_wind (σ : St) (a1 : Int) (a2 : Int) (Q : Int → St → Prop) : Prop :=
  V_M_isThread σ a1 (fun (r2 : Int) (σ1 : St) => ((i32 r2 = 0 → V_M_errs σ1 (-1000000001) (fun (r4 : Int) (σ3 : St) => Q r4 σ3)) ∧ (¬ i32 r2 = 0 → V_M_in σ1 (i32 a2) 0 9999 (fun (r6 : Int) (σ5 : St) => ((¬ i32 r6 = 0 → V_M_theWork σ5 (fun (σ7 : St) => (0 ≤ i32 a1 ∧ i32 a1 < 16) ∧ ((i32 (σ7 12 (i32 a1)) ≤ i32 a2 → (0 ≤ i32 (140 + a1) ∧ i32 (140 + a1) < 204) ∧ ∀ x3_8 : Int, x3_8 = σ7 1 (i32 (140 + a1)) → (0 ≤ i32 (140 + a1) ∧ i32 (140 + a1) < 204) ∧ ∀ σ9 : St, σ9 = ss σ7 1 (i32 (140 + a1)) a2 → Q x3_8 σ9) ∧ (i32 a2 < i32 (σ7 12 (i32 a1)) → V_M_errs σ7 (-1000000003) (fun (r11 : Int) (σ10 : St) => Q r11 σ10))))) ∧ (i32 r6 = 0 → V_M_errs σ5 (-1000000001) (fun (r13 : Int) (σ12 : St) => Q r13 σ12)))))))

def V_M_placeOf (σ : St) (a1 : Int) (Q : Int → St → Prop) : Prop :=
  WL1 (fun (bk3 : Int → St → Prop) (x2_1 : Int) (σ2 : St) => (0 ≤ i32 x2_1 ∧ i32 x2_1 < 16) ∧ ((i32 (σ2 11 (i32 x2_1)) = i32 a1 → Q x2_1 σ2) ∧ (¬ i32 (σ2 11 (i32 x2_1)) = i32 a1 → bk3 (x2_1 + 1) σ2))) 0 σ

def V_M_roundsOf (σ : St) (a1 : Int) (Q : Int → St → Prop) : Prop :=
  V_M_placeOf σ a1 (fun (r2 : Int) (σ1 : St) => WL2 (fun (bk6 : Int → Int → St → Prop) (x3_3 : Int) (x2_4 : Int) (σ5 : St) => ((i32 x3_3 = i32 a1 → Q x2_4 σ5) ∧ (¬ i32 x3_3 = i32 a1 → V_M_placeOf σ5 x3_3 (fun (r8 : Int) (σ7 : St) => bk6 r8 (x2_4 + 1) σ7)))) r2 1 σ1)

def J_M_overs_36 (a1 : Int) (x4_1 : Int) (x3_2 : Int) (bk4 : Int → Int → St → Prop) (y1_5 : Int) (σ6 : St) : Prop :=
  ((¬ i32 y1_5 = i32 a1 → ∀ x3_7 : Int, x3_7 = x3_2 + 0 → bk4 (x4_1 + 1) x3_7 σ6) ∧ (i32 y1_5 = i32 a1 → ∀ x3_8 : Int, x3_8 = x3_2 + 1 → bk4 (x4_1 + 1) x3_8 σ6))
def V_M_overs (σ : St) (a1 : Int) (a2 : Int) (Q : Int → St → Prop) : Prop :=
  WL2 (fun (bk4 : Int → Int → St → Prop) (x4_1 : Int) (x3_2 : Int) (σ3 : St) => ((i32 (σ3 0 15) ≤ i32 x4_1 → Q x3_2 σ3) ∧ (i32 x4_1 < i32 (σ3 0 15) → ((i32 a2 = 0 → (0 ≤ i32 x4_1 ∧ i32 x4_1 < 800) ∧ J_M_overs_36 a1 x4_1 x3_2 bk4 (σ3 16 (i32 x4_1)) σ3) ∧ (¬ i32 a2 = 0 → (0 ≤ i32 x4_1 ∧ i32 x4_1 < 800) ∧ J_M_overs_36 a1 x4_1 x3_2 bk4 (σ3 15 (i32 x4_1)) σ3))))) 0 0 σ

def J_M_falseOf_57 (Q : Int → St → Prop) (x4_1 : Int) (x3_2 : Int) (x2_3 : Int) (bk5 : Int → Int → Int → St → Prop) (y0_7 : Int) (σ8 : St) : Prop :=
  ((¬ i32 y0_7 = i32 x3_2 → bk5 (x4_1 + 1) y0_7 (x2_3 + 1) σ8) ∧ (i32 y0_7 = i32 x3_2 → Q x2_3 σ8))
def J_M_falseOf_41 (a1 : Int) (Q : Int → St → Prop) (x4_1 : Int) (x3_2 : Int) (x2_3 : Int) (bk5 : Int → Int → Int → St → Prop) (σ6 : St) : Prop :=
  (0 ≤ i32 x4_1 ∧ i32 x4_1 < 800) ∧ ((¬ i32 (σ6 15 (i32 x4_1)) = i32 a1 → J_M_falseOf_57 Q x4_1 x3_2 x2_3 bk5 0 σ6) ∧ (i32 (σ6 15 (i32 x4_1)) = i32 a1 → J_M_falseOf_57 Q x4_1 x3_2 x2_3 bk5 1 σ6))
def V_M_falseOf (σ : St) (a1 : Int) (Q : Int → St → Prop) : Prop :=
  WL3 (fun (bk5 : Int → Int → Int → St → Prop) (x4_1 : Int) (x3_2 : Int) (x2_3 : Int) (σ4 : St) => ((i32 (σ4 0 15) ≤ i32 x4_1 → Q (-1) σ4) ∧ (i32 x4_1 < i32 (σ4 0 15) → (0 ≤ i32 x4_1 ∧ i32 x4_1 < 800) ∧ ((i32 (σ4 15 (i32 x4_1)) = i32 a1 → J_M_falseOf_41 a1 Q x4_1 x3_2 x2_3 bk5 σ4) ∧ (¬ i32 (σ4 15 (i32 x4_1)) = i32 a1 → (0 ≤ i32 x4_1 ∧ i32 x4_1 < 800) ∧ ((i32 (σ4 16 (i32 x4_1)) = i32 a1 → J_M_falseOf_41 a1 Q x4_1 x3_2 x2_3 bk5 σ4) ∧ (¬ i32 (σ4 16 (i32 x4_1)) = i32 a1 → bk5 (x4_1 + 1) x3_2 x2_3 σ4))))))) 0 (-1) 0 σ

def J_M_thread_38 (a1 : Int) (a2 : Int) (Q : Int → St → Prop) (y1_7 : Int) (σ8 : St) : Prop :=
  V_M_whole σ8 y1_7 (fun (σ9 : St) => ((i32 a2 = 0 → (0 ≤ i32 (140 + a1) ∧ i32 (140 + a1) < 204) ∧ Q (σ9 1 (i32 (140 + a1))) σ9) ∧ (i32 a2 = 1 → (0 ≤ i32 (140 + a1) ∧ i32 (140 + a1) < 204) ∧ (0 ≤ i32 a1 ∧ i32 a1 < 16) ∧ Q ((σ9 1 (i32 (140 + a1))) - (σ9 12 (i32 a1))) σ9) ∧ (i32 a2 = 2 → V_M_placeOf σ9 a1 (fun (r11 : Int) (σ10 : St) => Q r11 σ10)) ∧ (i32 a2 = 3 → V_M_roundsOf σ9 a1 (fun (r13 : Int) (σ12 : St) => Q r13 σ12)) ∧ (i32 a2 = 4 → (0 ≤ i32 a1 ∧ i32 a1 < 16) ∧ Q (σ9 12 (i32 a1)) σ9) ∧ (i32 a2 = 5 → V_M_overs σ9 a1 1 (fun (r15 : Int) (σ14 : St) => Q r15 σ14)) ∧ (i32 a2 = 6 → V_M_overs σ9 a1 0 (fun (r17 : Int) (σ16 : St) => Q r17 σ16)) ∧ ((i32 a2 < 0 ∨ 6 < i32 a2) → V_M_falseOf σ9 a1 (fun (r19 : Int) (σ18 : St) => Q r19 σ18))))
def V_M_thread (σ : St) (a1 : Int) (a2 : Int) (Q : Int → St → Prop) : Prop :=
  V_M_isThread σ a1 (fun (r2 : Int) (σ1 : St) => ((i32 r2 = 0 → V_M_errs σ1 (-1000000001) (fun (r4 : Int) (σ3 : St) => Q r4 σ3)) ∧ (¬ i32 r2 = 0 → V_M_in σ1 (i32 a2) 0 7 (fun (r6 : Int) (σ5 : St) => ((¬ i32 r6 = 0 → ((3 ≤ i32 a2 → J_M_thread_38 a1 a2 Q 1 σ5) ∧ (i32 a2 < 3 → J_M_thread_38 a1 a2 Q 0 σ5))) ∧ (i32 r6 = 0 → V_M_errs σ5 (-1000000001) (fun (r21 : Int) (σ20 : St) => Q r21 σ20)))))))

def V_M_place (σ : St) (a1 : Int) (a2 : Int) (Q : Int → St → Prop) : Prop :=
  V_M_isThread σ a1 (fun (r2 : Int) (σ1 : St) => ((i32 r2 = 0 → V_M_errs σ1 (-1000000001) (fun (r4 : Int) (σ3 : St) => Q r4 σ3)) ∧ (¬ i32 r2 = 0 → V_M_in σ1 (i32 a2) 0 (i32 (σ1 0 5)) (fun (r6 : Int) (σ5 : St) => ((¬ i32 r6 = 0 → V_M_first σ5 a2 (fun (σ7 : St) => V_M_placeOf σ7 a1 (fun (r9 : Int) (σ8 : St) => Q r9 σ8))) ∧ (i32 r6 = 0 → V_M_errs σ5 (-1000000001) (fun (r11 : Int) (σ10 : St) => Q r11 σ10)))))))

def V_M_divisor (σ : St) (a1 : Int) (a2 : Int) (Q : Int → St → Prop) : Prop :=
  WL2 (fun (bk4 : Int → Int → St → Prop) (x6_1 : Int) (x4_2 : Int) (σ3 : St) => ((i64 x6_1 = 0 → Q x4_2 σ3) ∧ (¬ i64 x6_1 = 0 → (¬ i64 x6_1 = 0) ∧ ∀ x8_5 : Int, x8_5 = lrm x4_2 x6_1 → bk4 x8_5 x6_1 σ3))) a2 a1 σ

def V_M_rounds (σ : St) (Q : Int → St → Prop) : Prop :=
  V_M_first σ (σ 0 5) (fun (σ1 : St) => WL2 (fun (bk5 : Int → Int → St → Prop) (x3_2 : Int) (x1_3 : Int) (σ4 : St) => V_M_threads σ4 (fun (r7 : Int) (σ6 : St) => ((i32 r7 ≤ i32 x3_2 → Q x1_3 σ6) ∧ (i32 x3_2 < i32 r7 → V_M_roundsOf σ6 x3_2 (fun (r9 : Int) (σ8 : St) => ∀ x4_10 : Int, x4_10 = i32 r9 → V_M_divisor σ8 x1_3 x4_10 (fun (r12 : Int) (σ11 : St) => (¬ i64 r12 = 0) ∧ ∀ x1_13 : Int, x1_13 = (ldv x1_3 r12) * x4_10 → bk5 (x3_2 + 1) x1_13 σ11)))))) 0 1 σ1)

def J_M_link_75 (a1 : Int) (a2 : Int) (x4_10 : Int) (bk13 : Int → Int → St → Prop) (x3_14 : Int) (σ15 : St) : Prop :=
  (0 ≤ i32 x4_10 ∧ i32 x4_10 < 800) ∧ ((¬ i32 (σ15 15 (i32 x4_10)) = i32 a2 → bk13 (x4_10 + 1) x3_14 σ15) ∧ (i32 (σ15 15 (i32 x4_10)) = i32 a2 → (0 ≤ i32 x4_10 ∧ i32 x4_10 < 800) ∧ ((¬ i32 (σ15 16 (i32 x4_10)) = i32 a1 → bk13 (x4_10 + 1) x3_14 σ15) ∧ (i32 (σ15 16 (i32 x4_10)) = i32 a1 → bk13 (x4_10 + 1) (x3_14 + (-1)) σ15))))
def V_M_link (σ : St) (a1 : Int) (a2 : Int) (Q : Int → St → Prop) : Prop :=
  V_M_isThread σ a1 (fun (r2 : Int) (σ1 : St) => ((i32 r2 = 0 → V_M_errs σ1 (-1000000001) (fun (r4 : Int) (σ3 : St) => Q r4 σ3)) ∧ (¬ i32 r2 = 0 → V_M_isThread σ1 a2 (fun (r6 : Int) (σ5 : St) => ((i32 r6 = 0 → V_M_errs σ5 (-1000000001) (fun (r8 : Int) (σ7 : St) => Q r8 σ7)) ∧ (¬ i32 r6 = 0 → ((¬ i32 a1 = i32 a2 → V_M_first σ5 (σ5 0 5) (fun (σ9 : St) => WL2 (fun (bk13 : Int → Int → St → Prop) (x4_10 : Int) (x3_11 : Int) (σ12 : St) => ((i32 (σ12 0 15) ≤ i32 x4_10 → Q x3_11 σ12) ∧ (i32 x4_10 < i32 (σ12 0 15) → (0 ≤ i32 x4_10 ∧ i32 x4_10 < 800) ∧ ((¬ i32 (σ12 15 (i32 x4_10)) = i32 a1 → J_M_link_75 a1 a2 x4_10 bk13 x3_11 σ12) ∧ (i32 (σ12 15 (i32 x4_10)) = i32 a1 → (0 ≤ i32 x4_10 ∧ i32 x4_10 < 800) ∧ ((¬ i32 (σ12 16 (i32 x4_10)) = i32 a2 → J_M_link_75 a1 a2 x4_10 bk13 x3_11 σ12) ∧ (i32 (σ12 16 (i32 x4_10)) = i32 a2 → J_M_link_75 a1 a2 x4_10 bk13 (x3_11 + 1) σ12))))))) 0 0 σ9)) ∧ (i32 a1 = i32 a2 → V_M_errs σ5 (-1000000001) (fun (r17 : Int) (σ16 : St) => Q r17 σ16)))))))))

def J_M_meet_66 (a1 : Int) (a2 : Int) (Q : Int → St → Prop) (x3_10 : Int) (bk12 : Int → St → Prop) (σ15 : St) : Prop :=
  (0 ≤ i32 x3_10 ∧ i32 x3_10 < 800) ∧ ((¬ i32 (σ15 15 (i32 x3_10)) = i32 a2 → bk12 (x3_10 + 1) σ15) ∧ (i32 (σ15 15 (i32 x3_10)) = i32 a2 → (0 ≤ i32 x3_10 ∧ i32 x3_10 < 800) ∧ ((¬ i32 (σ15 16 (i32 x3_10)) = i32 a1 → bk12 (x3_10 + 1) σ15) ∧ (i32 (σ15 16 (i32 x3_10)) = i32 a1 → (0 ≤ i32 x3_10 ∧ i32 x3_10 < 800) ∧ Q (σ15 17 (i32 x3_10)) σ15))))
def V_M_meet (σ : St) (a1 : Int) (a2 : Int) (Q : Int → St → Prop) : Prop :=
  V_M_isThread σ a1 (fun (r2 : Int) (σ1 : St) => ((i32 r2 = 0 → V_M_errs σ1 (-1000000001) (fun (r4 : Int) (σ3 : St) => Q r4 σ3)) ∧ (¬ i32 r2 = 0 → V_M_isThread σ1 a2 (fun (r6 : Int) (σ5 : St) => ((i32 r6 = 0 → V_M_errs σ5 (-1000000001) (fun (r8 : Int) (σ7 : St) => Q r8 σ7)) ∧ (¬ i32 r6 = 0 → ((¬ i32 a1 = i32 a2 → V_M_first σ5 (σ5 0 5) (fun (σ9 : St) => WL1 (fun (bk12 : Int → St → Prop) (x3_10 : Int) (σ11 : St) => ((i32 (σ11 0 15) ≤ i32 x3_10 → V_M_errs σ11 (-1000000002) (fun (r14 : Int) (σ13 : St) => Q r14 σ13)) ∧ (i32 x3_10 < i32 (σ11 0 15) → (0 ≤ i32 x3_10 ∧ i32 x3_10 < 800) ∧ ((¬ i32 (σ11 15 (i32 x3_10)) = i32 a1 → J_M_meet_66 a1 a2 Q x3_10 bk12 σ11) ∧ (i32 (σ11 15 (i32 x3_10)) = i32 a1 → (0 ≤ i32 x3_10 ∧ i32 x3_10 < 800) ∧ ((i32 (σ11 16 (i32 x3_10)) = i32 a2 → (0 ≤ i32 x3_10 ∧ i32 x3_10 < 800) ∧ Q (σ11 17 (i32 x3_10)) σ11) ∧ (¬ i32 (σ11 16 (i32 x3_10)) = i32 a2 → J_M_meet_66 a1 a2 Q x3_10 bk12 σ11))))))) 0 σ9)) ∧ (i32 a1 = i32 a2 → V_M_errs σ5 (-1000000001) (fun (r17 : Int) (σ16 : St) => Q r17 σ16)))))))))

def V_M_lacks (σ : St) (a1 : Int) (Q : Int → St → Prop) : Prop :=
  V_M_in σ (i32 a1) 0 1 (fun (r2 : Int) (σ1 : St) => ((¬ i32 r2 = 0 → V_M_begins σ1 (fun (σ3 : St) => WL1 (fun (bk6 : Int → St → Prop) (x2_4 : Int) (σ5 : St) => ((i32 (σ5 0 5) ≤ i32 x2_4 → V_M_errs σ5 (-1000000002) (fun (r8 : Int) (σ7 : St) => Q r8 σ7)) ∧ (i32 x2_4 < i32 (σ5 0 5) → V_M_works σ5 x2_4 1 (fun (σ9 : St) => WL1 (fun (bk12 : Int → St → Prop) (x3_10 : Int) (σ11 : St) => V_M_threads σ11 (fun (r14 : Int) (σ13 : St) => ((i32 r14 ≤ i32 x3_10 → bk6 (x2_4 + 1) σ13) ∧ (i32 x3_10 < i32 r14 → (0 ≤ i32 x3_10 ∧ i32 x3_10 < 16) ∧ (0 ≤ i32 (140 + x3_10) ∧ i32 (140 + x3_10) < 204) ∧ ((i32 (σ13 12 (i32 x3_10)) ≤ i32 (σ13 1 (i32 (140 + x3_10))) → bk12 (x3_10 + 1) σ13) ∧ (i32 (σ13 1 (i32 (140 + x3_10))) < i32 (σ13 12 (i32 x3_10)) → ((¬ i32 a1 = 0 → Q x3_10 σ13) ∧ (i32 a1 = 0 → Q x2_4 σ13)))))))) 0 σ9)))) 0 σ3)) ∧ (i32 r2 = 0 → V_M_errs σ1 (-1000000001) (fun (r16 : Int) (σ15 : St) => Q r16 σ15))))

def V_M_lace (σ : St) (a1 : Int) (a2 : Int) (Q : Int → St → Prop) : Prop :=
  V_M_in σ (i32 a1) 0 1 (fun (r2 : Int) (σ1 : St) => ((i32 r2 = 0 → V_M_errs σ1 (-1000000001) (fun (r4 : Int) (σ3 : St) => Q r4 σ3)) ∧ (¬ i32 r2 = 0 → V_M_in σ1 (i32 a2) 0 3 (fun (r6 : Int) (σ5 : St) => ((¬ i32 r6 = 0 → V_M_whole σ5 a1 (fun (σ7 : St) => V_M_layers σ7 (fun (r9 : Int) (σ8 : St) => WL2 (fun (bk13 : Int → Int → St → Prop) (x5_10 : Int) (x4_11 : Int) (σ12 : St) => ((i32 (σ12 0 21) ≤ i32 x5_10 → ((¬ i32 a2 = 0 → ((¬ i32 a2 = 1 → ((¬ i32 a2 = 2 → Q x4_11 σ12) ∧ (i32 a2 = 2 → Q r9 σ12))) ∧ (i32 a2 = 1 → Q (σ12 0 21) σ12))) ∧ (i32 a2 = 0 → Q (σ12 0 15) σ12))) ∧ (i32 x5_10 < i32 (σ12 0 21) → (0 ≤ i32 x5_10 ∧ i32 x5_10 < 800) ∧ ((¬ i32 (σ12 19 (i32 x5_10)) = 1 → ∀ x4_14 : Int, x4_14 = x4_11 + 0 → bk13 (x5_10 + 1) x4_14 σ12) ∧ (i32 (σ12 19 (i32 x5_10)) = 1 → ∀ x4_15 : Int, x4_15 = x4_11 + 1 → bk13 (x5_10 + 1) x4_15 σ12))))) 0 0 σ8))) ∧ (i32 r6 = 0 → V_M_errs σ5 (-1000000001) (fun (r17 : Int) (σ16 : St) => Q r17 σ16)))))))

def V_M_layer (σ : St) (a1 : Int) (a2 : Int) (a3 : Int) (Q : Int → St → Prop) : Prop :=
  V_M_in σ (i32 a1) 0 1 (fun (r2 : Int) (σ1 : St) => ((i32 r2 = 0 → V_M_errs σ1 (-1000000001) (fun (r4 : Int) (σ3 : St) => Q r4 σ3)) ∧ (¬ i32 r2 = 0 → ((i32 a2 < 0 → V_M_errs σ1 (-1000000001) (fun (r6 : Int) (σ5 : St) => Q r6 σ5)) ∧ (0 ≤ i32 a2 → V_M_threads σ1 (fun (r8 : Int) (σ7 : St) => V_M_in σ7 (i32 a3) 0 (i32 (r8 - 2)) (fun (r10 : Int) (σ9 : St) => ((¬ i32 r10 = 0 → V_M_whole σ9 a1 (fun (σ11 : St) => V_M_layers σ11 (fun (r13 : Int) (σ12 : St) => V_M_signIn σ12 a2 a3 (fun (r15 : Int) (σ14 : St) => Q r15 σ14)))) ∧ (i32 r10 = 0 → V_M_errs σ9 (-1000000001) (fun (r17 : Int) (σ16 : St) => Q r17 σ16))))))))))

def V_M_areRowsAlike (σ : St) (a1 : Int) (a2 : Int) (Q : Int → St → Prop) : Prop :=
  WL1 (fun (bk3 : Int → St → Prop) (x3_1 : Int) (σ2 : St) => V_M_gaps σ2 (fun (r5 : Int) (σ4 : St) => ((i32 r5 ≤ i32 x3_1 → Q 1 σ4) ∧ (i32 x3_1 < i32 r5 → V_M_held σ4 a1 x3_1 (fun (r7 : Int) (σ6 : St) => V_M_held σ6 a2 x3_1 (fun (r9 : Int) (σ8 : St) => ((i32 r7 = i32 r9 → bk3 (x3_1 + 1) σ8) ∧ (¬ i32 r7 = i32 r9 → Q 0 σ8)))))))) 0 σ

def V_M_repeat (σ : St) (Q : Int → St → Prop) : Prop :=
  ((¬ i32 (σ 0 5) = 0 → WL1 (fun (bk3 : Int → St → Prop) (x1_1 : Int) (σ2 : St) => V_M_deep σ2 (fun (r5 : Int) (σ4 : St) => ((i32 r5 ≤ i32 x1_1 → V_M_deep σ4 (fun (r7 : Int) (σ6 : St) => Q r7 σ6)) ∧ (i32 x1_1 < i32 r5 → WL2 (fun (bk11 : Int → Int → St → Prop) (x3_8 : Int) (x2_9 : Int) (σ10 : St) => V_M_deep σ10 (fun (r13 : Int) (σ12 : St) => ((i32 r13 ≤ i32 x3_8 → ((i32 x2_9 = 0 → bk3 (x1_1 + 1) σ12) ∧ (¬ i32 x2_9 = 0 → Q x1_1 σ12))) ∧ (i32 x3_8 < i32 r13 → ((i32 x2_9 = 0 → ((i32 x2_9 = 0 → bk3 (x1_1 + 1) σ12) ∧ (¬ i32 x2_9 = 0 → Q x1_1 σ12))) ∧ (¬ i32 x2_9 = 0 → V_M_areRowsAlike σ12 x3_8 (x3_8 - x1_1) (fun (r15 : Int) (σ14 : St) => bk11 (x3_8 + 1) r15 σ14))))))) x1_1 1 σ4)))) 1 σ) ∧ (i32 (σ 0 5) = 0 → V_M_errs σ (-1000000002) (fun (r17 : Int) (σ16 : St) => Q r17 σ16)))

def V_M_fits (σ : St) (a1 : Int) (a2 : Int) (a3 : Int) (Q : Int → St → Prop) : Prop :=
  ((i64 a1 = (-2) → Q 1 σ) ∧ (¬ i64 a1 = (-2) → V_M_in σ a1 (-1) 5 (fun (r2 : Int) (σ1 : St) => ((i32 r2 = 0 → Q 0 σ1) ∧ (¬ i32 r2 = 0 → V_M_held σ1 a2 a3 (fun (r4 : Int) (σ3 : St) => ((¬ i32 r4 = i64 a1 → Q 0 σ3) ∧ (i32 r4 = i64 a1 → Q 1 σ3))))))))

def V_M_isFound (σ : St) (a1 : Int) (a2 : Int) (a3 : Int) (a4 : Int) (Q : Int → St → Prop) : Prop :=
  WL1 (fun (bk3 : Int → St → Prop) (x5_1 : Int) (σ2 : St) => (0 ≤ i32 a1 ∧ i32 a1 < 4) ∧ ((i32 (σ2 25 (i32 a1)) ≤ i32 x5_1 → Q 1 σ2) ∧ (i32 x5_1 < i32 (σ2 25 (i32 a1)) → (0 ≤ i32 ((60 * a1) + x5_1) ∧ i32 ((60 * a1) + x5_1) < 240) ∧ (¬ i32 a2 = 0) ∧ (¬ i32 a2 = 0) ∧ V_M_fits σ2 (σ2 26 (i32 ((60 * a1) + x5_1))) (a3 + (idv x5_1 a2)) (a4 + (irm x5_1 a2)) (fun (r5 : Int) (σ4 : St) => ((¬ i32 r5 = 0 → bk3 (x5_1 + 1) σ4) ∧ (i32 r5 = 0 → Q 0 σ4)))))) 0 σ

def V_M_motif (σ : St) (a1 : Int) (a2 : Int) (a3 : Int) (Q : Int → St → Prop) : Prop :=
  V_M_isSheet σ a1 (fun (r2 : Int) (σ1 : St) => ((i32 r2 = 0 → V_M_errs σ1 (-1000000001) (fun (r4 : Int) (σ3 : St) => Q r4 σ3)) ∧ (¬ i32 r2 = 0 → V_M_in σ1 (i32 a2) 1 7 (fun (r6 : Int) (σ5 : St) => ((i32 r6 = 0 → V_M_errs σ5 (-1000000001) (fun (r8 : Int) (σ7 : St) => Q r8 σ7)) ∧ (¬ i32 r6 = 0 → V_M_in σ5 (i32 a3) 0 1 (fun (r10 : Int) (σ9 : St) => ((¬ i32 r10 = 0 → (0 ≤ i32 a1 ∧ i32 a1 < 4) ∧ ((0 ≤ i32 (σ9 24 (i32 a1)) → (0 ≤ i32 a1 ∧ i32 a1 < 4) ∧ ((i32 (σ9 25 (i32 a1)) = 0 → V_M_errs σ9 (-1000000003) (fun (r12 : Int) (σ11 : St) => Q r12 σ11)) ∧ (¬ i32 (σ9 25 (i32 a1)) = 0 → (0 ≤ i32 a1 ∧ i32 a1 < 4) ∧ (¬ i32 a2 = 0) ∧ ((i32 (irm (σ9 25 (i32 a1)) a2) = 0 → (0 ≤ i32 a1 ∧ i32 a1 < 4) ∧ (¬ i32 a2 = 0) ∧ ∀ x4_13 : Int, x4_13 = idv (σ9 25 (i32 a1)) a2 → WL3 (fun (bk18 : Int → Int → Int → St → Prop) (x7_14 : Int) (x6_15 : Int) (x5_16 : Int) (σ17 : St) => ((12 < i32 (x7_14 + x4_13) → ((¬ i32 a3 = 0 → ((0 ≤ i32 x6_15 → Q x6_15 σ17) ∧ (i32 x6_15 < 0 → V_M_errs σ17 (-1000000002) (fun (r20 : Int) (σ19 : St) => Q r20 σ19)))) ∧ (i32 a3 = 0 → Q x5_16 σ17))) ∧ (i32 (x7_14 + x4_13) ≤ 12 → WL3 (fun (bk25 : Int → Int → Int → St → Prop) (x8_21 : Int) (x6_22 : Int) (x5_23 : Int) (σ24 : St) => V_M_gaps σ24 (fun (r27 : Int) (σ26 : St) => ((i32 r27 < i32 (x8_21 + a2) → bk18 (x7_14 + 1) x6_22 x5_23 σ26) ∧ (i32 (x8_21 + a2) ≤ i32 r27 → V_M_isFound σ26 a1 a2 x7_14 x8_21 (fun (r29 : Int) (σ28 : St) => ((¬ i32 r29 = 0 → ((0 ≤ i32 x6_22 → bk25 (x8_21 + 1) x6_22 (x5_23 + 1) σ28) ∧ (i32 x6_22 < 0 → ∀ x6_30 : Int, x6_30 = (10 * x7_14) + x8_21 → bk25 (x8_21 + 1) x6_30 (x5_23 + 1) σ28))) ∧ (i32 r29 = 0 → bk25 (x8_21 + 1) x6_22 x5_23 σ28))))))) 0 x6_15 x5_16 σ17))) 0 (-1) 0 σ9) ∧ (¬ i32 (irm (σ9 25 (i32 a1)) a2) = 0 → V_M_errs σ9 (-1000000003) (fun (r32 : Int) (σ31 : St) => Q r32 σ31)))))) ∧ (i32 (σ9 24 (i32 a1)) < 0 → V_M_errs σ9 (-1000000007) (fun (r34 : Int) (σ33 : St) => Q r34 σ33)))) ∧ (i32 r10 = 0 → V_M_errs σ9 (-1000000001) (fun (r36 : Int) (σ35 : St) => Q r36 σ35))))))))))

def J_M_sheet_81 (a1 : Int) (Q : Int → St → Prop) (y2_10 : Int) (σ11 : St) : Prop :=
  (0 ≤ i32 a1 ∧ i32 a1 < 4) ∧ ∀ σ12 : St, σ12 = ss σ11 25 (i32 a1) y2_10 → WL1 (fun (bk15 : Int → St → Prop) (x4_13 : Int) (σ14 : St) => ((60 ≤ i32 x4_13 → Q 1 σ14) ∧ (i32 x4_13 < 60 → (0 ≤ i32 ((60 * a1) + x4_13) ∧ i32 ((60 * a1) + x4_13) < 240) ∧ ∀ σ16 : St, σ16 = ss σ14 26 (i32 ((60 * a1) + x4_13)) 0 → bk15 (x4_13 + 1) σ16))) 0 σ12
def J_M_sheet_60 (a1 : Int) (a2 : Int) (a3 : Int) (Q : Int → St → Prop) (σ8 : St) : Prop :=
  (0 ≤ i32 a1 ∧ i32 a1 < 4) ∧ ∀ σ9 : St, σ9 = ss σ8 24 (i32 a1) a2 → ((0 ≤ i32 a2 → J_M_sheet_81 a1 Q a3 σ9) ∧ (i32 a2 < 0 → J_M_sheet_81 a1 Q 0 σ9))
def J_M_sheet_43 (a1 : Int) (a2 : Int) (a3 : Int) (Q : Int → St → Prop) (σ7 : St) : Prop :=
  ((i32 a2 < 0 → J_M_sheet_60 a1 a2 a3 Q σ7) ∧ (0 ≤ i32 a2 → ((i32 a3 ≤ 60 → J_M_sheet_60 a1 a2 a3 Q σ7) ∧ (60 < i32 a3 → V_M_errs σ7 (-1000000001) (fun (r18 : Int) (σ17 : St) => Q r18 σ17)))))
def V_M_sheet (σ : St) (a1 : Int) (a2 : Int) (a3 : Int) (Q : Int → St → Prop) : Prop :=
  V_M_isSheet σ a1 (fun (r2 : Int) (σ1 : St) => ((i32 r2 = 0 → V_M_errs σ1 (-1000000001) (fun (r4 : Int) (σ3 : St) => Q r4 σ3)) ∧ (¬ i32 r2 = 0 → V_M_in σ1 (i32 a2) (-1) 3 (fun (r6 : Int) (σ5 : St) => ((¬ i32 r6 = 0 → ((i32 a2 < 0 → J_M_sheet_43 a1 a2 a3 Q σ5) ∧ (0 ≤ i32 a2 → ((0 ≤ i32 a3 → J_M_sheet_43 a1 a2 a3 Q σ5) ∧ (i32 a3 < 0 → V_M_errs σ5 (-1000000003) (fun (r20 : Int) (σ19 : St) => Q r20 σ19)))))) ∧ (i32 r6 = 0 → V_M_errs σ5 (-1000000001) (fun (r22 : Int) (σ21 : St) => Q r22 σ21)))))))

def V_M_isItem (σ : St) (a1 : Int) (a2 : Int) (Q : Int → St → Prop) : Prop :=
  (0 ≤ i32 a1 ∧ i32 a1 < 4) ∧ ((i32 (σ 24 (i32 a1)) < 0 → Q 0 σ) ∧ (0 ≤ i32 (σ 24 (i32 a1)) → (0 ≤ i32 a1 ∧ i32 a1 < 4) ∧ V_M_in σ (i32 a2) 0 (i32 ((σ 25 (i32 a1)) - 1)) (fun (r2 : Int) (σ1 : St) => ((i32 r2 = 0 → Q 0 σ1) ∧ (¬ i32 r2 = 0 → Q 1 σ1)))))

def V_M_put (σ : St) (a1 : Int) (a2 : Int) (a3 : Int) (Q : Int → St → Prop) : Prop :=
  V_M_isSheet σ a1 (fun (r2 : Int) (σ1 : St) => ((¬ i32 r2 = 0 → V_M_isItem σ1 a1 a2 (fun (r4 : Int) (σ3 : St) => ((¬ i32 r4 = 0 → (0 ≤ i32 a1 ∧ i32 a1 < 4) ∧ ((¬ i32 (σ3 24 (i32 a1)) = 0 → (0 ≤ i32 a1 ∧ i32 a1 < 4) ∧ ((¬ i32 (σ3 24 (i32 a1)) = 1 → (0 ≤ i32 a1 ∧ i32 a1 < 4) ∧ ((¬ i32 (σ3 24 (i32 a1)) = 2 → (0 ≤ i32 ((60 * a1) + a2) ∧ i32 ((60 * a1) + a2) < 240) ∧ ∀ σ5 : St, σ5 = ss σ3 26 (i32 ((60 * a1) + a2)) a3 → Q 1 σ5) ∧ (i32 (σ3 24 (i32 a1)) = 2 → (0 ≤ i32 ((60 * a1) + a2) ∧ i32 ((60 * a1) + a2) < 240) ∧ ∀ σ6 : St, σ6 = ss σ3 26 (i32 ((60 * a1) + a2)) (i32 a3) → Q 1 σ6))) ∧ (i32 (σ3 24 (i32 a1)) = 1 → (0 ≤ i32 ((60 * a1) + a2) ∧ i32 ((60 * a1) + a2) < 240) ∧ ∀ σ7 : St, σ7 = ss σ3 26 (i32 ((60 * a1) + a2)) (i32 (i16 a3)) → Q 1 σ7))) ∧ (i32 (σ3 24 (i32 a1)) = 0 → ((¬ i64 a3 = 0 → (0 ≤ i32 ((60 * a1) + a2) ∧ i32 ((60 * a1) + a2) < 240) ∧ ∀ σ8 : St, σ8 = ss σ3 26 (i32 ((60 * a1) + a2)) 1 → Q 1 σ8) ∧ (i64 a3 = 0 → (0 ≤ i32 ((60 * a1) + a2) ∧ i32 ((60 * a1) + a2) < 240) ∧ ∀ σ9 : St, σ9 = ss σ3 26 (i32 ((60 * a1) + a2)) 0 → Q 1 σ9))))) ∧ (i32 r4 = 0 → V_M_errs σ3 (-1000000007) (fun (r11 : Int) (σ10 : St) => Q r11 σ10))))) ∧ (i32 r2 = 0 → V_M_errs σ1 (-1000000001) (fun (r13 : Int) (σ12 : St) => Q r13 σ12))))

def V_M_number (σ : St) (a1 : Int) (a2 : Int) (Q : Int → St → Prop) : Prop :=
  V_M_isSheet σ a1 (fun (r2 : Int) (σ1 : St) => ((¬ i32 r2 = 0 → V_M_isItem σ1 a1 a2 (fun (r4 : Int) (σ3 : St) => ((i32 r4 = 0 → V_M_errsLong σ3 (-1000000007) (fun (r6 : Int) (σ5 : St) => Q r6 σ5)) ∧ (¬ i32 r4 = 0 → (0 ≤ i32 ((60 * a1) + a2) ∧ i32 ((60 * a1) + a2) < 240) ∧ Q (σ3 26 (i32 ((60 * a1) + a2))) σ3)))) ∧ (i32 r2 = 0 → V_M_errsLong σ1 (-1000000001) (fun (r8 : Int) (σ7 : St) => Q r8 σ7))))

def V_M_image (σ : St) (Q : Int → St → Prop) : Prop :=
  V_M_copy 1 2 σ (fun (σ1 : St) => ∀ σ2 : St, σ2 = ss σ1 0 3 1 → Q (σ2 1 1) σ2)

def V_M_restore (σ : St) (Q : Int → St → Prop) : Prop :=
  ((¬ i32 (σ 0 3) = 0 → V_M_copy 2 1 σ (fun (σ1 : St) => V_M_lists σ1 (fun (σ2 : St) => Q (σ2 1 1) σ2))) ∧ (i32 (σ 0 3) = 0 → V_M_errs σ (-1000000002) (fun (r4 : Int) (σ3 : St) => Q r4 σ3)))

def J_M_alike_161 (Q : Int → St → Prop) (y0_19 : Int) (σ20 : St) : Prop :=
  WL2 (fun (bk24 : Int → Int → St → Prop) (x4_21 : Int) (x3_22 : Int) (σ23 : St) => ((i32 (σ23 0 21) ≤ i32 x4_21 → ((i32 x3_22 = 0 → Q 0 σ23) ∧ (¬ i32 x3_22 = 0 → Q 1 σ23))) ∧ (i32 x4_21 < i32 (σ23 0 21) → ((i32 x3_22 = 0 → ((i32 x3_22 = 0 → Q 0 σ23) ∧ (¬ i32 x3_22 = 0 → Q 1 σ23))) ∧ (¬ i32 x3_22 = 0 → (0 ≤ i32 x4_21 ∧ i32 x4_21 < 800) ∧ (0 ≤ i32 x4_21 ∧ i32 x4_21 < 800) ∧ (0 ≤ i32 ((16 * (σ23 20 (i32 x4_21))) + (σ23 18 (i32 x4_21))) ∧ i32 ((16 * (σ23 20 (i32 x4_21))) + (σ23 18 (i32 x4_21))) < 12800) ∧ (0 ≤ i32 x4_21 ∧ i32 x4_21 < 800) ∧ ((¬ i32 (σ23 27 (i32 ((16 * (σ23 20 (i32 x4_21))) + (σ23 18 (i32 x4_21))))) = i32 (σ23 19 (i32 x4_21)) → bk24 (x4_21 + 1) 0 σ23) ∧ (i32 (σ23 27 (i32 ((16 * (σ23 20 (i32 x4_21))) + (σ23 18 (i32 x4_21))))) = i32 (σ23 19 (i32 x4_21)) → bk24 (x4_21 + 1) 1 σ23))))))) 0 y0_19 σ20
def J_M_alike_160 (Q : Int → St → Prop) (σ25 : St) : Prop :=
  J_M_alike_161 Q 0 σ25
def V_M_alike (σ : St) (Q : Int → St → Prop) : Prop :=
  ((¬ i32 (σ 0 3) = 0 → V_M_copy 1 3 σ (fun (σ1 : St) => V_M_copy 2 1 σ1 (fun (σ2 : St) => V_M_lists σ2 (fun (σ3 : St) => V_M_theWork σ3 (fun (σ4 : St) => V_M_layers σ4 (fun (r6 : Int) (σ5 : St) => ∀ x2_7 : Int, x2_7 = σ5 0 21 → WL1 (fun (bk10 : Int → St → Prop) (x3_8 : Int) (σ9 : St) => ((12800 ≤ i32 x3_8 → WL1 (fun (bk13 : Int → St → Prop) (x3_11 : Int) (σ12 : St) => ((i32 (σ12 0 21) ≤ i32 x3_11 → V_M_copy 3 1 σ12 (fun (σ14 : St) => V_M_lists σ14 (fun (σ15 : St) => V_M_theWork σ15 (fun (σ16 : St) => V_M_layers σ16 (fun (r18 : Int) (σ17 : St) => ((¬ i32 r18 = i32 r6 → J_M_alike_160 Q σ17) ∧ (i32 r18 = i32 r6 → ((¬ i32 (σ17 0 21) = i32 x2_7 → J_M_alike_160 Q σ17) ∧ (i32 (σ17 0 21) = i32 x2_7 → J_M_alike_161 Q 1 σ17))))))))) ∧ (i32 x3_11 < i32 (σ12 0 21) → (0 ≤ i32 x3_11 ∧ i32 x3_11 < 800) ∧ (0 ≤ i32 x3_11 ∧ i32 x3_11 < 800) ∧ (0 ≤ i32 x3_11 ∧ i32 x3_11 < 800) ∧ (0 ≤ i32 ((16 * (σ12 20 (i32 x3_11))) + (σ12 18 (i32 x3_11))) ∧ i32 ((16 * (σ12 20 (i32 x3_11))) + (σ12 18 (i32 x3_11))) < 12800) ∧ ∀ σ26 : St, σ26 = ss σ12 27 (i32 ((16 * (σ12 20 (i32 x3_11))) + (σ12 18 (i32 x3_11)))) (σ12 19 (i32 x3_11)) → bk13 (x3_11 + 1) σ26))) 0 σ9) ∧ (i32 x3_8 < 12800 → (0 ≤ i32 x3_8 ∧ i32 x3_8 < 12800) ∧ ∀ σ27 : St, σ27 = ss σ9 27 (i32 x3_8) 0 → bk10 (x3_8 + 1) σ27))) 0 σ5)))))) ∧ (i32 (σ 0 3) = 0 → V_M_errs σ (-1000000002) (fun (r29 : Int) (σ28 : St) => Q r29 σ28)))

def V_M_all (σ : St) (a1 : Int) (Q : Int → St → Prop) : Prop :=
  V_M_theWork σ (fun (σ1 : St) => WL2 (fun (bk5 : Int → Int → St → Prop) (x3_2 : Int) (x2_3 : Int) (σ4 : St) => V_M_threads σ4 (fun (r7 : Int) (σ6 : St) => ((i32 r7 ≤ i32 x3_2 → Q x2_3 σ6) ∧ (i32 x3_2 < i32 r7 → (0 ≤ i32 (140 + x3_2) ∧ i32 (140 + x3_2) < 204) ∧ ((i32 a1 = 0 → ∀ x2_8 : Int, x2_8 = x2_3 + ((σ6 1 (i32 (140 + x3_2))) - 0) → bk5 (x3_2 + 1) x2_8 σ6) ∧ (¬ i32 a1 = 0 → (0 ≤ i32 x3_2 ∧ i32 x3_2 < 16) ∧ ∀ x2_9 : Int, x2_9 = x2_3 + ((σ6 1 (i32 (140 + x3_2))) - (σ6 12 (i32 x3_2))) → bk5 (x3_2 + 1) x2_9 σ6)))))) 0 0 σ1)

def V_M_atHome (σ : St) (Q : Int → St → Prop) : Prop :=
  V_M_theWork σ (fun (σ1 : St) => WL2 (fun (bk5 : Int → Int → St → Prop) (x2_2 : Int) (x1_3 : Int) (σ4 : St) => V_M_threads σ4 (fun (r7 : Int) (σ6 : St) => ((i32 r7 ≤ i32 x2_2 → Q x1_3 σ6) ∧ (i32 x2_2 < i32 r7 → (0 ≤ i32 x2_2 ∧ i32 x2_2 < 16) ∧ ((¬ i32 (σ6 11 (i32 x2_2)) = i32 x2_2 → ∀ x1_8 : Int, x1_8 = x1_3 + 0 → bk5 (x2_2 + 1) x1_8 σ6) ∧ (i32 (σ6 11 (i32 x2_2)) = i32 x2_2 → ∀ x1_9 : Int, x1_9 = x1_3 + 1 → bk5 (x2_2 + 1) x1_9 σ6)))))) 0 0 σ1)

def V_M_made (σ : St) (Q : Int → St → Prop) : Prop :=
  V_M_theWork σ (fun (σ1 : St) => Q (σ1 0 15) σ1)

def V_M_count (σ : St) (a1 : Int) (Q : Int → St → Prop) : Prop :=
  ((i32 a1 = 0 → Q (σ 1 0) σ) ∧ (i32 a1 = 1 → Q (σ 0 12) σ) ∧ (i32 a1 = 2 → V_M_all σ 1 (fun (r2 : Int) (σ1 : St) => Q r2 σ1)) ∧ (i32 a1 = 3 → V_M_all σ 0 (fun (r4 : Int) (σ3 : St) => Q r4 σ3)) ∧ (i32 a1 = 4 → V_M_made σ (fun (r6 : Int) (σ5 : St) => Q r6 σ5)) ∧ (i32 a1 = 5 → V_M_atHome σ (fun (r8 : Int) (σ7 : St) => Q r8 σ7)) ∧ ((i32 a1 < 0 ∨ 5 < i32 a1) → V_M_errs σ (-1000000001) (fun (r10 : Int) (σ9 : St) => Q r10 σ9)))

def V_M_told (σ : St) (a1 : Int) (Q : Int → St → Prop) : Prop :=
  V_M_in σ (i32 a1) 1 7 (fun (r2 : Int) (σ1 : St) => ((i32 r2 = 0 → V_M_errs σ1 (-1000000001) (fun (r4 : Int) (σ3 : St) => Q r4 σ3)) ∧ (¬ i32 r2 = 0 → (0 ≤ i32 a1 ∧ i32 a1 < 8) ∧ Q (σ1 4 (i32 a1)) σ1)))
