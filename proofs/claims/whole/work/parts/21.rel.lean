/-! the relation between the class's heap and the reference's: pointers, and what is held where -/
def PIc (h : zH) : Prop := gt h 11 0 0 = 0 ∧ gt h 11 0 1 = 0 ∧ gt h 11 0 3 = 0 ∧ gt h 3 0 0 = 0 ∧ gt h 3 0 2 = 0 ∧ gt h 3 0 4 = 0 ∧ gt h 3 0 6 = 0 ∧ gt h 3 0 7 = 0 ∧ gt h 3 0 8 = 0 ∧ gt h 7 0 0 = 0 ∧ gt h 7 0 1 = 0 ∧ gt h 7 0 2 = 0 ∧ gt h 5 0 0 = 0 ∧ gt h 5 0 1 = 0 ∧ gt h 5 0 2 = 0 ∧ gt h 8 0 0 = 0 ∧ gt h 8 0 1 = 0 ∧ gt h 8 0 2 = 0 ∧ gt h 8 0 4 = 0 ∧ gt h 8 0 6 = 0 ∧ gt h 8 0 8 = 0 ∧ gt h 8 0 10 = 0 ∧ gt h 2 0 0 = 0 ∧ gt h 2 0 1 = 0 ∧ gt h 2 0 2 = 0 ∧ gt h 2 0 3 = 0 ∧ gt h 2 0 4 = 0 ∧ gt h 2 0 5 = 0
def PIr (h : zH) : Prop := gt h 12 0 1 = 0 ∧ gt h 12 0 2 = 0 ∧ gt h 12 0 3 = 0 ∧ gt h 12 0 5 = 0 ∧ gt h 12 0 7 = 0 ∧ gt h 12 0 8 = 0 ∧ gt h 12 0 9 = 0 ∧ gt h 12 0 10 = 0 ∧ gt h 12 0 11 = 0 ∧ gt h 12 0 13 = 0 ∧ gt h 12 0 14 = 0 ∧ gt h 12 0 15 = 0 ∧ gt h 12 0 17 = 0 ∧ gt h 12 0 18 = 0 ∧ gt h 12 0 19 = 0 ∧ gt h 12 0 20 = 0 ∧ gt h 12 0 23 = 0 ∧ gt h 12 0 24 = 0 ∧ gt h 12 0 26 = 0 ∧ gt h 12 0 27 = 0 ∧ gt h 12 0 28 = 0 ∧ gt h 12 0 29 = 0 ∧ gt h 12 0 30 = 0 ∧ gt h 12 0 31 = 0 ∧ gt h 12 0 32 = 0 ∧ gt h 12 0 35 = 0 ∧ gt h 12 0 36 = 0 ∧ gt h 12 0 37 = 0 ∧ gt h 12 0 38 = 0 ∧ gt h 12 0 39 = 0 ∧ gt h 12 0 40 = 0 ∧ gt h 12 0 41 = 0 ∧ gt h 12 0 42 = 0 ∧ gt h 12 0 46 = 0 ∧ gt h 12 0 47 = 0 ∧ gt h 12 0 48 = 0 ∧ gt h 12 0 49 = 0 ∧ gt h 12 0 50 = 0 ∧ gt h 12 0 51 = 0 ∧ gt h 12 0 63 = 0 ∧ gt h 12 0 64 = 0 ∧ gt h 12 0 65 = 0 ∧ gt h 12 0 66 = 0
theorem pc_11_0 {h : zH} (k : PIc h) : gt h 11 0 0 = 0 := k.1
theorem pc_11_1 {h : zH} (k : PIc h) : gt h 11 0 1 = 0 := k.2.1
theorem pc_11_3 {h : zH} (k : PIc h) : gt h 11 0 3 = 0 := k.2.2.1
theorem pc_3_0 {h : zH} (k : PIc h) : gt h 3 0 0 = 0 := k.2.2.2.1
theorem pc_3_2 {h : zH} (k : PIc h) : gt h 3 0 2 = 0 := k.2.2.2.2.1
theorem pc_3_4 {h : zH} (k : PIc h) : gt h 3 0 4 = 0 := k.2.2.2.2.2.1
theorem pc_3_6 {h : zH} (k : PIc h) : gt h 3 0 6 = 0 := k.2.2.2.2.2.2.1
theorem pc_3_7 {h : zH} (k : PIc h) : gt h 3 0 7 = 0 := k.2.2.2.2.2.2.2.1
theorem pc_3_8 {h : zH} (k : PIc h) : gt h 3 0 8 = 0 := k.2.2.2.2.2.2.2.2.1
theorem pc_7_0 {h : zH} (k : PIc h) : gt h 7 0 0 = 0 := k.2.2.2.2.2.2.2.2.2.1
theorem pc_7_1 {h : zH} (k : PIc h) : gt h 7 0 1 = 0 := k.2.2.2.2.2.2.2.2.2.2.1
theorem pc_7_2 {h : zH} (k : PIc h) : gt h 7 0 2 = 0 := k.2.2.2.2.2.2.2.2.2.2.2.1
theorem pc_5_0 {h : zH} (k : PIc h) : gt h 5 0 0 = 0 := k.2.2.2.2.2.2.2.2.2.2.2.2.1
theorem pc_5_1 {h : zH} (k : PIc h) : gt h 5 0 1 = 0 := k.2.2.2.2.2.2.2.2.2.2.2.2.2.1
theorem pc_5_2 {h : zH} (k : PIc h) : gt h 5 0 2 = 0 := k.2.2.2.2.2.2.2.2.2.2.2.2.2.2.1
theorem pc_8_0 {h : zH} (k : PIc h) : gt h 8 0 0 = 0 := k.2.2.2.2.2.2.2.2.2.2.2.2.2.2.2.1
theorem pc_8_1 {h : zH} (k : PIc h) : gt h 8 0 1 = 0 := k.2.2.2.2.2.2.2.2.2.2.2.2.2.2.2.2.1
theorem pc_8_2 {h : zH} (k : PIc h) : gt h 8 0 2 = 0 := k.2.2.2.2.2.2.2.2.2.2.2.2.2.2.2.2.2.1
theorem pc_8_4 {h : zH} (k : PIc h) : gt h 8 0 4 = 0 := k.2.2.2.2.2.2.2.2.2.2.2.2.2.2.2.2.2.2.1
theorem pc_8_6 {h : zH} (k : PIc h) : gt h 8 0 6 = 0 := k.2.2.2.2.2.2.2.2.2.2.2.2.2.2.2.2.2.2.2.1
theorem pc_8_8 {h : zH} (k : PIc h) : gt h 8 0 8 = 0 := k.2.2.2.2.2.2.2.2.2.2.2.2.2.2.2.2.2.2.2.2.1
theorem pc_8_10 {h : zH} (k : PIc h) : gt h 8 0 10 = 0 := k.2.2.2.2.2.2.2.2.2.2.2.2.2.2.2.2.2.2.2.2.2.1
theorem pc_2_0 {h : zH} (k : PIc h) : gt h 2 0 0 = 0 := k.2.2.2.2.2.2.2.2.2.2.2.2.2.2.2.2.2.2.2.2.2.2.1
theorem pc_2_1 {h : zH} (k : PIc h) : gt h 2 0 1 = 0 := k.2.2.2.2.2.2.2.2.2.2.2.2.2.2.2.2.2.2.2.2.2.2.2.1
theorem pc_2_2 {h : zH} (k : PIc h) : gt h 2 0 2 = 0 := k.2.2.2.2.2.2.2.2.2.2.2.2.2.2.2.2.2.2.2.2.2.2.2.2.1
theorem pc_2_3 {h : zH} (k : PIc h) : gt h 2 0 3 = 0 := k.2.2.2.2.2.2.2.2.2.2.2.2.2.2.2.2.2.2.2.2.2.2.2.2.2.1
theorem pc_2_4 {h : zH} (k : PIc h) : gt h 2 0 4 = 0 := k.2.2.2.2.2.2.2.2.2.2.2.2.2.2.2.2.2.2.2.2.2.2.2.2.2.2.1
theorem pc_2_5 {h : zH} (k : PIc h) : gt h 2 0 5 = 0 := k.2.2.2.2.2.2.2.2.2.2.2.2.2.2.2.2.2.2.2.2.2.2.2.2.2.2.2
theorem pr_1 {h : zH} (k : PIr h) : gt h 12 0 1 = 0 := k.1
theorem pr_2 {h : zH} (k : PIr h) : gt h 12 0 2 = 0 := k.2.1
theorem pr_3 {h : zH} (k : PIr h) : gt h 12 0 3 = 0 := k.2.2.1
theorem pr_5 {h : zH} (k : PIr h) : gt h 12 0 5 = 0 := k.2.2.2.1
theorem pr_7 {h : zH} (k : PIr h) : gt h 12 0 7 = 0 := k.2.2.2.2.1
theorem pr_8 {h : zH} (k : PIr h) : gt h 12 0 8 = 0 := k.2.2.2.2.2.1
theorem pr_9 {h : zH} (k : PIr h) : gt h 12 0 9 = 0 := k.2.2.2.2.2.2.1
theorem pr_10 {h : zH} (k : PIr h) : gt h 12 0 10 = 0 := k.2.2.2.2.2.2.2.1
theorem pr_11 {h : zH} (k : PIr h) : gt h 12 0 11 = 0 := k.2.2.2.2.2.2.2.2.1
theorem pr_13 {h : zH} (k : PIr h) : gt h 12 0 13 = 0 := k.2.2.2.2.2.2.2.2.2.1
theorem pr_14 {h : zH} (k : PIr h) : gt h 12 0 14 = 0 := k.2.2.2.2.2.2.2.2.2.2.1
theorem pr_15 {h : zH} (k : PIr h) : gt h 12 0 15 = 0 := k.2.2.2.2.2.2.2.2.2.2.2.1
theorem pr_17 {h : zH} (k : PIr h) : gt h 12 0 17 = 0 := k.2.2.2.2.2.2.2.2.2.2.2.2.1
theorem pr_18 {h : zH} (k : PIr h) : gt h 12 0 18 = 0 := k.2.2.2.2.2.2.2.2.2.2.2.2.2.1
theorem pr_19 {h : zH} (k : PIr h) : gt h 12 0 19 = 0 := k.2.2.2.2.2.2.2.2.2.2.2.2.2.2.1
theorem pr_20 {h : zH} (k : PIr h) : gt h 12 0 20 = 0 := k.2.2.2.2.2.2.2.2.2.2.2.2.2.2.2.1
theorem pr_23 {h : zH} (k : PIr h) : gt h 12 0 23 = 0 := k.2.2.2.2.2.2.2.2.2.2.2.2.2.2.2.2.1
theorem pr_24 {h : zH} (k : PIr h) : gt h 12 0 24 = 0 := k.2.2.2.2.2.2.2.2.2.2.2.2.2.2.2.2.2.1
theorem pr_26 {h : zH} (k : PIr h) : gt h 12 0 26 = 0 := k.2.2.2.2.2.2.2.2.2.2.2.2.2.2.2.2.2.2.1
theorem pr_27 {h : zH} (k : PIr h) : gt h 12 0 27 = 0 := k.2.2.2.2.2.2.2.2.2.2.2.2.2.2.2.2.2.2.2.1
theorem pr_28 {h : zH} (k : PIr h) : gt h 12 0 28 = 0 := k.2.2.2.2.2.2.2.2.2.2.2.2.2.2.2.2.2.2.2.2.1
theorem pr_29 {h : zH} (k : PIr h) : gt h 12 0 29 = 0 := k.2.2.2.2.2.2.2.2.2.2.2.2.2.2.2.2.2.2.2.2.2.1
theorem pr_30 {h : zH} (k : PIr h) : gt h 12 0 30 = 0 := k.2.2.2.2.2.2.2.2.2.2.2.2.2.2.2.2.2.2.2.2.2.2.1
theorem pr_31 {h : zH} (k : PIr h) : gt h 12 0 31 = 0 := k.2.2.2.2.2.2.2.2.2.2.2.2.2.2.2.2.2.2.2.2.2.2.2.1
theorem pr_32 {h : zH} (k : PIr h) : gt h 12 0 32 = 0 := k.2.2.2.2.2.2.2.2.2.2.2.2.2.2.2.2.2.2.2.2.2.2.2.2.1
theorem pr_35 {h : zH} (k : PIr h) : gt h 12 0 35 = 0 := k.2.2.2.2.2.2.2.2.2.2.2.2.2.2.2.2.2.2.2.2.2.2.2.2.2.1
theorem pr_36 {h : zH} (k : PIr h) : gt h 12 0 36 = 0 := k.2.2.2.2.2.2.2.2.2.2.2.2.2.2.2.2.2.2.2.2.2.2.2.2.2.2.1
theorem pr_37 {h : zH} (k : PIr h) : gt h 12 0 37 = 0 := k.2.2.2.2.2.2.2.2.2.2.2.2.2.2.2.2.2.2.2.2.2.2.2.2.2.2.2.1
theorem pr_38 {h : zH} (k : PIr h) : gt h 12 0 38 = 0 := k.2.2.2.2.2.2.2.2.2.2.2.2.2.2.2.2.2.2.2.2.2.2.2.2.2.2.2.2.1
theorem pr_39 {h : zH} (k : PIr h) : gt h 12 0 39 = 0 := k.2.2.2.2.2.2.2.2.2.2.2.2.2.2.2.2.2.2.2.2.2.2.2.2.2.2.2.2.2.1
theorem pr_40 {h : zH} (k : PIr h) : gt h 12 0 40 = 0 := k.2.2.2.2.2.2.2.2.2.2.2.2.2.2.2.2.2.2.2.2.2.2.2.2.2.2.2.2.2.2.1
theorem pr_41 {h : zH} (k : PIr h) : gt h 12 0 41 = 0 := k.2.2.2.2.2.2.2.2.2.2.2.2.2.2.2.2.2.2.2.2.2.2.2.2.2.2.2.2.2.2.2.1
theorem pr_42 {h : zH} (k : PIr h) : gt h 12 0 42 = 0 := k.2.2.2.2.2.2.2.2.2.2.2.2.2.2.2.2.2.2.2.2.2.2.2.2.2.2.2.2.2.2.2.2.1
theorem pr_46 {h : zH} (k : PIr h) : gt h 12 0 46 = 0 := k.2.2.2.2.2.2.2.2.2.2.2.2.2.2.2.2.2.2.2.2.2.2.2.2.2.2.2.2.2.2.2.2.2.1
theorem pr_47 {h : zH} (k : PIr h) : gt h 12 0 47 = 0 := k.2.2.2.2.2.2.2.2.2.2.2.2.2.2.2.2.2.2.2.2.2.2.2.2.2.2.2.2.2.2.2.2.2.2.1
theorem pr_48 {h : zH} (k : PIr h) : gt h 12 0 48 = 0 := k.2.2.2.2.2.2.2.2.2.2.2.2.2.2.2.2.2.2.2.2.2.2.2.2.2.2.2.2.2.2.2.2.2.2.2.1
theorem pr_49 {h : zH} (k : PIr h) : gt h 12 0 49 = 0 := k.2.2.2.2.2.2.2.2.2.2.2.2.2.2.2.2.2.2.2.2.2.2.2.2.2.2.2.2.2.2.2.2.2.2.2.2.1
theorem pr_50 {h : zH} (k : PIr h) : gt h 12 0 50 = 0 := k.2.2.2.2.2.2.2.2.2.2.2.2.2.2.2.2.2.2.2.2.2.2.2.2.2.2.2.2.2.2.2.2.2.2.2.2.2.1
theorem pr_51 {h : zH} (k : PIr h) : gt h 12 0 51 = 0 := k.2.2.2.2.2.2.2.2.2.2.2.2.2.2.2.2.2.2.2.2.2.2.2.2.2.2.2.2.2.2.2.2.2.2.2.2.2.2.1
theorem pr_63 {h : zH} (k : PIr h) : gt h 12 0 63 = 0 := k.2.2.2.2.2.2.2.2.2.2.2.2.2.2.2.2.2.2.2.2.2.2.2.2.2.2.2.2.2.2.2.2.2.2.2.2.2.2.2.1
theorem pr_64 {h : zH} (k : PIr h) : gt h 12 0 64 = 0 := k.2.2.2.2.2.2.2.2.2.2.2.2.2.2.2.2.2.2.2.2.2.2.2.2.2.2.2.2.2.2.2.2.2.2.2.2.2.2.2.2.1
theorem pr_65 {h : zH} (k : PIr h) : gt h 12 0 65 = 0 := k.2.2.2.2.2.2.2.2.2.2.2.2.2.2.2.2.2.2.2.2.2.2.2.2.2.2.2.2.2.2.2.2.2.2.2.2.2.2.2.2.2.1
theorem pr_66 {h : zH} (k : PIr h) : gt h 12 0 66 = 0 := k.2.2.2.2.2.2.2.2.2.2.2.2.2.2.2.2.2.2.2.2.2.2.2.2.2.2.2.2.2.2.2.2.2.2.2.2.2.2.2.2.2.2
/-- the static arrays -/
def ST (h : zH) : Prop := gt h 100 0 (-1) = 17 ∧ gt h 101 0 (-1) = 17 ∧ gt h 102 0 (-1) = 12 ∧ (∀ j : Int, 0 ≤ j → j < 17 → gt h 100 0 j = zA100.getD j.toNat 0 ∧ gt h 101 0 j = zA101.getD j.toNat 0) ∧ ∀ j : Int, 0 ≤ j → j < 12 → gt h 102 0 j = zA102.getD j.toNat 0
/-- the objects of the class by their places -/
def SC (h : zH) : Prop :=
  (∀ i : Int, 0 ≤ i → i < 11 → gt h 39 0 i = i ∧ gt h 1 i 3 = i) ∧ (∀ i : Int, 0 ≤ i → i < 91 → gt h 40 0 i = i ∧ gt h 41 0 i = i) ∧ (∀ i : Int, 0 ≤ i → i < 160 → gt h 42 0 i = i) ∧
  (∀ p : Int, 0 ≤ p → p < gt h 3 0 1 → gt h 27 0 p = p ∧ gt h 6 p 0 = p ∧ gt h 6 p 5 = p ∧ gt h 6 p 6 = p) ∧
  (∀ a : Int, 0 ≤ a → a < gt h 11 0 2 → gt h 49 0 a = a + 1) ∧ (∀ a : Int, gt h 11 0 2 ≤ a → a < 12 → gt h 49 0 a = -1) ∧
  (∀ i : Int, 1 ≤ i → i ≤ gt h 11 0 2 → gt h 10 i 0 = i ∧ gt h 10 i 1 = i ∧ gt h 10 i 2 = i ∧ gt h 10 i 3 = i ∧ gt h 10 i 7 = i ∧ gt h 10 i 8 = i) ∧
  cn h 6 = gt h 3 0 1 ∧ cn h 34 = gt h 3 0 1 ∧ cn h 35 = gt h 3 0 1 ∧
  cn h 10 = gt h 11 0 2 + 1 ∧ cn h 43 = gt h 11 0 2 + 1 ∧ cn h 44 = gt h 11 0 2 + 1 ∧ cn h 45 = gt h 11 0 2 + 1 ∧ cn h 46 = gt h 11 0 2 + 1 ∧ cn h 47 = gt h 11 0 2 + 1 ∧ cn h 48 = gt h 11 0 2 + 1
/-- PARTS -/
def RP (hc hr : zH) : Prop := gt hr 12 0 0 = gt hc 3 0 1 ∧ 0 ≤ gt hc 3 0 1 ∧ gt hc 3 0 1 ≤ 60 ∧
  ∀ p : Int, 0 ≤ p → p < gt hc 3 0 1 → gt hc 6 p 1 = gt hr 50 0 p ∧ gt hc 6 p 2 = gt hr 51 0 p ∧ gt hc 6 p 3 = gt hr 52 0 p ∧ 0 ≤ gt hr 51 0 p ∧ gt hr 51 0 p ≤ 100000 ∧ 0 ≤ gt hr 52 0 p ∧ gt hr 52 0 p ≤ 3
/-- THE CLEANING -/
def RC (hc hr : zH) : Prop := gt hr 12 0 4 = gt hc 3 0 3 ∧ 0 ≤ gt hc 3 0 3 ∧ gt hc 3 0 3 ≤ gt hr 12 0 0 ∧
  (∀ i : Int, 0 ≤ i → i < gt hr 12 0 4 → gt hc 28 0 i = gt hr 53 0 i ∧ 0 ≤ gt hr 53 0 i ∧ gt hr 53 0 i < gt hr 12 0 0 ∧ gt hr 52 0 (gt hr 53 0 i) = 2) ∧
  ∀ i j : Int, 0 ≤ i → i < j → j < gt hr 12 0 4 → gt hr 53 0 i ≠ gt hr 53 0 j
/-- PLANS -/
def RPl (hc hr : zH) : Prop := gt hr 12 0 6 = gt hc 7 0 3 ∧ 0 ≤ gt hc 7 0 3 ∧ gt hc 7 0 3 ≤ 30 ∧
  ∀ i : Int, 0 ≤ i → i < gt hc 7 0 3 → gt hc 36 0 i = gt hr 54 0 i ∧ gt hc 38 0 i = gt hr 56 0 i ∧ gt hc 37 0 i = gt hr 55 0 i - gt hr 57 0 i ∧ 0 < gt hc 37 0 i ∧ gt hr 55 0 i ≤ 20 ∧ 0 ≤ gt hr 57 0 i
/-- THE LOG: at most B so far -/
def RLg (B : Int) (hc hr : zH) : Prop := 0 ≤ gt hr 12 0 12 ∧ gt hr 12 0 12 ≤ B ∧ gt hc 5 0 3 = (if gt hr 12 0 12 < 60 then gt hr 12 0 12 else 60) ∧ gt hc 5 0 4 = (gt hr 12 0 12 + 59) % 60 ∧
  ∀ i : Int, 0 ≤ i → i < gt hc 5 0 3 → gt hc 31 0 i = gt hr 59 0 i ∧ gt hc 32 0 i = gt hr 60 0 i ∧ gt hc 33 0 i = gt hr 61 0 i
/-- CHARGED -/
def RCh (hc hr : zH) : Prop := ∀ c : Int, 0 ≤ c → c < 8 → gt hc 30 0 c = gt hr 58 0 c
/-- LEAKS -/
def RK (hc hr : zH) : Prop := gt hr 12 0 62 = gt hc 3 0 5 ∧ 0 ≤ gt hc 3 0 5 ∧ gt hc 3 0 5 ≤ gt hr 12 0 0 ∧
  (∀ i : Int, 0 ≤ i → i < gt hr 12 0 62 → gt hc 29 0 i = gt hr 89 0 i ∧ 0 ≤ gt hr 89 0 i ∧ gt hr 89 0 i < gt hr 12 0 0 ∧ gt hr 52 0 (gt hr 89 0 i) = 1 ∧ gt hc 6 (gt hr 89 0 i) 4 = gt hr 90 0 i ∧ 0 ≤ gt hr 90 0 i ∧ gt hr 90 0 i < 8 ∧
    gt hc 6 (gt hr 89 0 i) 7 = gt hr 91 0 i ∧ 0 ≤ gt hr 91 0 i ∧ gt hr 91 0 i ≤ 10 ∧ ∀ k : Int, 0 ≤ k → k < gt hr 91 0 i → gt hc 34 (gt hr 89 0 i) k = gt hr 92 0 (20 * i + 2 * k) ∧ gt hc 35 (gt hr 89 0 i) k = gt hr 92 0 (20 * i + 2 * k + 1)) ∧
  (∀ i j : Int, 0 ≤ i → i < j → j < gt hr 12 0 62 → gt hr 89 0 i ≠ gt hr 89 0 j) ∧
  ∀ p : Int, 0 ≤ p → p < gt hr 12 0 0 → gt hr 52 0 p = 1 → ∃ i : Int, 0 ≤ i ∧ i < gt hr 12 0 62 ∧ gt hr 89 0 i = p
/-- the latest RUN -/
def RRn (hc hr : zH) : Prop := gt hc 8 0 17 = gt hr 12 0 54 ∧ gt hc 8 0 14 = gt hr 12 0 55 ∧ gt hc 2 0 6 = gt hr 12 0 45 ∧ gt hc 8 0 9 = gt hr 12 0 56 ∧ gt hc 8 0 15 = gt hr 12 0 44 ∧ gt hc 8 0 16 = gt hr 12 0 58 ∧ (if gt hc 8 0 17 = 1 then gt hc 8 0 13 else -1) = gt hr 12 0 59 ∧ 0 ≤ gt hc 2 0 6 ∧ gt hc 2 0 6 ≤ 16 ∧
  ∀ i : Int, 0 ≤ i → i < gt hc 2 0 6 → gt hc 21 0 i = gt hr 83 0 i ∧ gt hc 22 0 i = gt hr 84 0 i ∧ gt hc 23 0 i = gt hr 85 0 i ∧ gt hc 24 0 i = gt hr 86 0 i ∧ gt hc 25 0 i = gt hr 87 0 i ∧ gt hc 26 0 i = gt hr 88 0 i

/-- all but the places T is as it was -/
def zFr (T : Nat → Int → Prop) (h h' : zH) : Prop := ∀ (c : Nat) (i j : Int), ¬ T c j → gt h' c i j = gt h c i j
theorem zFr.rf {T : Nat → Int → Prop} (h : zH) : zFr T h h := fun _ _ _ _ => rfl
theorem zFr.tr {T : Nat → Int → Prop} {a b d : zH} (x : zFr T a b) (y : zFr T b d) : zFr T a d := fun c i j n => (y c i j n).trans (x c i j n)
theorem zFr.wk {T T' : Nat → Int → Prop} {a b : zH} (x : zFr T a b) (w : ∀ c j, T c j → T' c j) : zFr T' a b := fun c i j n => x c i j (fun z => n (w c j z))
theorem zFr.pt {T : Nat → Int → Prop} {a h : zH} {c : Nat} {i j v : Int} (x : zFr T a h) (w : T c j) : zFr T a (pt h c i j v) := fun c' i' j' n => by
  rw [gt_pt, if_neg]
  · exact x c' i' j' n
  · intro z
    rw [z.1, z.2.2] at n
    exact n w
abbrev tPIc (c : Nat) (j : Int) : Prop := (c = 2 ∧ j < 6) ∨ (c = 3 ∧ (j = 0 ∨ j = 2 ∨ j = 4 ∨ 6 ≤ j)) ∨ (c = 5 ∧ j < 3) ∨ (c = 7 ∧ j < 3) ∨ (c = 8 ∧ (j ≤ 2 ∨ j = 4 ∨ j = 6 ∨ j = 8 ∨ j = 10)) ∨ (c = 11 ∧ j ≠ 2)
theorem PIc.cg {h h' : zH} (e : ∀ c i j, tPIc c j → gt h' c i j = gt h c i j) (k : PIc h) : PIc h' := by
  unfold PIc
  simp only [e 11 0 0 (by decide), e 11 0 1 (by decide), e 11 0 3 (by decide), e 3 0 0 (by decide), e 3 0 2 (by decide), e 3 0 4 (by decide), e 3 0 6 (by decide), e 3 0 7 (by decide), e 3 0 8 (by decide), e 7 0 0 (by decide), e 7 0 1 (by decide), e 7 0 2 (by decide), e 5 0 0 (by decide), e 5 0 1 (by decide), e 5 0 2 (by decide), e 8 0 0 (by decide), e 8 0 1 (by decide), e 8 0 2 (by decide), e 8 0 4 (by decide), e 8 0 6 (by decide), e 8 0 8 (by decide), e 8 0 10 (by decide), e 2 0 0 (by decide), e 2 0 1 (by decide), e 2 0 2 (by decide), e 2 0 3 (by decide), e 2 0 4 (by decide), e 2 0 5 (by decide)]
  exact k
abbrev tPIr (c : Nat) (j : Int) : Prop := c = 12 ∧ ((1 ≤ j ∧ j ≤ 3) ∨ j = 5 ∨ (7 ≤ j ∧ j ≤ 11) ∨ (13 ≤ j ∧ j ≤ 15) ∨ (17 ≤ j ∧ j ≤ 20) ∨ (23 ≤ j ∧ j ≤ 24) ∨ (26 ≤ j ∧ j ≤ 32) ∨ (35 ≤ j ∧ j ≤ 42) ∨ (46 ≤ j ∧ j ≤ 51) ∨ (63 ≤ j ∧ j ≤ 66))
theorem PIr.cg {h h' : zH} (e : ∀ c i j, tPIr c j → gt h' c i j = gt h c i j) (k : PIr h) : PIr h' := by
  unfold PIr
  simp only [e 12 0 1 (by decide), e 12 0 2 (by decide), e 12 0 3 (by decide), e 12 0 5 (by decide), e 12 0 7 (by decide), e 12 0 8 (by decide), e 12 0 9 (by decide), e 12 0 10 (by decide), e 12 0 11 (by decide), e 12 0 13 (by decide), e 12 0 14 (by decide), e 12 0 15 (by decide), e 12 0 17 (by decide), e 12 0 18 (by decide), e 12 0 19 (by decide), e 12 0 20 (by decide), e 12 0 23 (by decide), e 12 0 24 (by decide), e 12 0 26 (by decide), e 12 0 27 (by decide), e 12 0 28 (by decide), e 12 0 29 (by decide), e 12 0 30 (by decide), e 12 0 31 (by decide), e 12 0 32 (by decide), e 12 0 35 (by decide), e 12 0 36 (by decide), e 12 0 37 (by decide), e 12 0 38 (by decide), e 12 0 39 (by decide), e 12 0 40 (by decide), e 12 0 41 (by decide), e 12 0 42 (by decide), e 12 0 46 (by decide), e 12 0 47 (by decide), e 12 0 48 (by decide), e 12 0 49 (by decide), e 12 0 50 (by decide), e 12 0 51 (by decide), e 12 0 63 (by decide), e 12 0 64 (by decide), e 12 0 65 (by decide), e 12 0 66 (by decide)]
  exact k
abbrev tST (c : Nat) (j : Int) : Prop := c = 100 ∨ c = 101 ∨ c = 102
theorem ST.cg {h h' : zH} (eh : ∀ c i j, tST c j → gt h' c i j = gt h c i j) (k : ST h) : ST h' := by
  unfold ST
  simp only [fun i j => eh 100 i j (by unfold tST; omega), fun i j => eh 101 i j (by unfold tST; omega), fun i j => eh 102 i j (by unfold tST; omega)]
  exact k
abbrev tSC (c : Nat) (j : Int) : Prop := (c = 1 ∧ j = 3) ∨ (c = 3 ∧ j = 1) ∨ (c = 6 ∧ j = 0) ∨ (c = 6 ∧ j = 5) ∨ (c = 6 ∧ j = 6) ∨ (c = 10 ∧ j = 0) ∨ (c = 10 ∧ j = 1) ∨ (c = 10 ∧ j = 2) ∨ (c = 10 ∧ j = 3) ∨ (c = 10 ∧ j = 7) ∨ (c = 10 ∧ j = 8) ∨ (c = 11 ∧ j = 2) ∨ c = 27 ∨ c = 39 ∨ c = 40 ∨ c = 41 ∨ c = 42 ∨ c = 49
theorem SC.cg {h h' : zH} (eh : ∀ c i j, tSC c j → gt h' c i j = gt h c i j) (en : h'.1 = h.1) (k : SC h) : SC h' := by
  unfold SC
  simp only [fun i => eh 1 i 3 (by decide), fun i => eh 3 i 1 (by decide), fun i => eh 6 i 0 (by decide), fun i => eh 6 i 5 (by decide), fun i => eh 6 i 6 (by decide), fun i => eh 10 i 0 (by decide), fun i => eh 10 i 1 (by decide), fun i => eh 10 i 2 (by decide), fun i => eh 10 i 3 (by decide), fun i => eh 10 i 7 (by decide), fun i => eh 10 i 8 (by decide), fun i => eh 11 i 2 (by decide), fun i j => eh 27 i j (by unfold tSC; omega), fun i j => eh 39 i j (by unfold tSC; omega), fun i j => eh 40 i j (by unfold tSC; omega), fun i j => eh 41 i j (by unfold tSC; omega), fun i j => eh 42 i j (by unfold tSC; omega), fun i j => eh 49 i j (by unfold tSC; omega), show ∀ c, cn h' c = cn h c from fun c => congrFun en c]
  exact k
abbrev tRPc (c : Nat) (j : Int) : Prop := (c = 3 ∧ j = 1) ∨ (c = 6 ∧ j = 1) ∨ (c = 6 ∧ j = 2) ∨ (c = 6 ∧ j = 3)
abbrev tRPr (c : Nat) (j : Int) : Prop := (c = 12 ∧ j = 0) ∨ c = 50 ∨ c = 51 ∨ c = 52
theorem RP.cg {hc hc' hr hr' : zH} (ehc : ∀ c i j, tRPc c j → gt hc' c i j = gt hc c i j) (ehr : ∀ c i j, tRPr c j → gt hr' c i j = gt hr c i j) (k : RP hc hr) : RP hc' hr' := by
  unfold RP
  simp only [fun i => ehc 3 i 1 (by decide), fun i => ehc 6 i 1 (by decide), fun i => ehc 6 i 2 (by decide), fun i => ehc 6 i 3 (by decide), fun i => ehr 12 i 0 (by decide), fun i j => ehr 50 i j (by unfold tRPr; omega), fun i j => ehr 51 i j (by unfold tRPr; omega), fun i j => ehr 52 i j (by unfold tRPr; omega)]
  exact k
abbrev tRCc (c : Nat) (j : Int) : Prop := (c = 3 ∧ j = 3) ∨ c = 28
abbrev tRCr (c : Nat) (j : Int) : Prop := (c = 12 ∧ j = 0) ∨ (c = 12 ∧ j = 4) ∨ c = 52 ∨ c = 53
theorem RC.cg {hc hc' hr hr' : zH} (ehc : ∀ c i j, tRCc c j → gt hc' c i j = gt hc c i j) (ehr : ∀ c i j, tRCr c j → gt hr' c i j = gt hr c i j) (k : RC hc hr) : RC hc' hr' := by
  unfold RC
  simp only [fun i => ehc 3 i 3 (by decide), fun i j => ehc 28 i j (by unfold tRCc; omega), fun i => ehr 12 i 0 (by decide), fun i => ehr 12 i 4 (by decide), fun i j => ehr 52 i j (by unfold tRCr; omega), fun i j => ehr 53 i j (by unfold tRCr; omega)]
  exact k
abbrev tRPlc (c : Nat) (j : Int) : Prop := (c = 7 ∧ j = 3) ∨ c = 36 ∨ c = 37 ∨ c = 38
abbrev tRPlr (c : Nat) (j : Int) : Prop := (c = 12 ∧ j = 6) ∨ c = 54 ∨ c = 55 ∨ c = 56 ∨ c = 57
theorem RPl.cg {hc hc' hr hr' : zH} (ehc : ∀ c i j, tRPlc c j → gt hc' c i j = gt hc c i j) (ehr : ∀ c i j, tRPlr c j → gt hr' c i j = gt hr c i j) (k : RPl hc hr) : RPl hc' hr' := by
  unfold RPl
  simp only [fun i => ehc 7 i 3 (by decide), fun i j => ehc 36 i j (by unfold tRPlc; omega), fun i j => ehc 37 i j (by unfold tRPlc; omega), fun i j => ehc 38 i j (by unfold tRPlc; omega), fun i => ehr 12 i 6 (by decide), fun i j => ehr 54 i j (by unfold tRPlr; omega), fun i j => ehr 55 i j (by unfold tRPlr; omega), fun i j => ehr 56 i j (by unfold tRPlr; omega), fun i j => ehr 57 i j (by unfold tRPlr; omega)]
  exact k
abbrev tRLgc (c : Nat) (j : Int) : Prop := (c = 5 ∧ j = 3) ∨ (c = 5 ∧ j = 4) ∨ c = 31 ∨ c = 32 ∨ c = 33
abbrev tRLgr (c : Nat) (j : Int) : Prop := (c = 12 ∧ j = 12) ∨ c = 59 ∨ c = 60 ∨ c = 61
theorem RLg.cg {hc hc' hr hr' : zH} {B : Int} (ehc : ∀ c i j, tRLgc c j → gt hc' c i j = gt hc c i j) (ehr : ∀ c i j, tRLgr c j → gt hr' c i j = gt hr c i j) (k : RLg B hc hr) : RLg B hc' hr' := by
  unfold RLg
  simp only [fun i => ehc 5 i 3 (by decide), fun i => ehc 5 i 4 (by decide), fun i j => ehc 31 i j (by unfold tRLgc; omega), fun i j => ehc 32 i j (by unfold tRLgc; omega), fun i j => ehc 33 i j (by unfold tRLgc; omega), fun i => ehr 12 i 12 (by decide), fun i j => ehr 59 i j (by unfold tRLgr; omega), fun i j => ehr 60 i j (by unfold tRLgr; omega), fun i j => ehr 61 i j (by unfold tRLgr; omega)]
  exact k
abbrev tRChc (c : Nat) (j : Int) : Prop := c = 30
abbrev tRChr (c : Nat) (j : Int) : Prop := c = 58
theorem RCh.cg {hc hc' hr hr' : zH} (ehc : ∀ c i j, tRChc c j → gt hc' c i j = gt hc c i j) (ehr : ∀ c i j, tRChr c j → gt hr' c i j = gt hr c i j) (k : RCh hc hr) : RCh hc' hr' := by
  unfold RCh
  simp only [fun i j => ehc 30 i j (by unfold tRChc; omega), fun i j => ehr 58 i j (by unfold tRChr; omega)]
  exact k
abbrev tRKc (c : Nat) (j : Int) : Prop := (c = 3 ∧ j = 5) ∨ (c = 6 ∧ j = 4) ∨ (c = 6 ∧ j = 7) ∨ c = 29 ∨ c = 34 ∨ c = 35
abbrev tRKr (c : Nat) (j : Int) : Prop := (c = 12 ∧ j = 0) ∨ (c = 12 ∧ j = 62) ∨ c = 52 ∨ c = 89 ∨ c = 90 ∨ c = 91 ∨ c = 92
theorem RK.cg {hc hc' hr hr' : zH} (ehc : ∀ c i j, tRKc c j → gt hc' c i j = gt hc c i j) (ehr : ∀ c i j, tRKr c j → gt hr' c i j = gt hr c i j) (k : RK hc hr) : RK hc' hr' := by
  unfold RK
  simp only [fun i => ehc 3 i 5 (by decide), fun i => ehc 6 i 4 (by decide), fun i => ehc 6 i 7 (by decide), fun i j => ehc 29 i j (by unfold tRKc; omega), fun i j => ehc 34 i j (by unfold tRKc; omega), fun i j => ehc 35 i j (by unfold tRKc; omega), fun i => ehr 12 i 0 (by decide), fun i => ehr 12 i 62 (by decide), fun i j => ehr 52 i j (by unfold tRKr; omega), fun i j => ehr 89 i j (by unfold tRKr; omega), fun i j => ehr 90 i j (by unfold tRKr; omega), fun i j => ehr 91 i j (by unfold tRKr; omega), fun i j => ehr 92 i j (by unfold tRKr; omega)]
  exact k
abbrev tRRnc (c : Nat) (j : Int) : Prop := (c = 2 ∧ j = 6) ∨ (c = 8 ∧ j = 9) ∨ (c = 8 ∧ j = 13) ∨ (c = 8 ∧ j = 14) ∨ (c = 8 ∧ j = 15) ∨ (c = 8 ∧ j = 16) ∨ (c = 8 ∧ j = 17) ∨ c = 21 ∨ c = 22 ∨ c = 23 ∨ c = 24 ∨ c = 25 ∨ c = 26
abbrev tRRnr (c : Nat) (j : Int) : Prop := (c = 12 ∧ j = 44) ∨ (c = 12 ∧ j = 45) ∨ (c = 12 ∧ j = 54) ∨ (c = 12 ∧ j = 55) ∨ (c = 12 ∧ j = 56) ∨ (c = 12 ∧ j = 58) ∨ (c = 12 ∧ j = 59) ∨ c = 83 ∨ c = 84 ∨ c = 85 ∨ c = 86 ∨ c = 87 ∨ c = 88
theorem RRn.cg {hc hc' hr hr' : zH} (ehc : ∀ c i j, tRRnc c j → gt hc' c i j = gt hc c i j) (ehr : ∀ c i j, tRRnr c j → gt hr' c i j = gt hr c i j) (k : RRn hc hr) : RRn hc' hr' := by
  unfold RRn
  simp only [fun i => ehc 2 i 6 (by decide), fun i => ehc 8 i 9 (by decide), fun i => ehc 8 i 13 (by decide), fun i => ehc 8 i 14 (by decide), fun i => ehc 8 i 15 (by decide), fun i => ehc 8 i 16 (by decide), fun i => ehc 8 i 17 (by decide), fun i j => ehc 21 i j (by unfold tRRnc; omega), fun i j => ehc 22 i j (by unfold tRRnc; omega), fun i j => ehc 23 i j (by unfold tRRnc; omega), fun i j => ehc 24 i j (by unfold tRRnc; omega), fun i j => ehc 25 i j (by unfold tRRnc; omega), fun i j => ehc 26 i j (by unfold tRRnc; omega), fun i => ehr 12 i 44 (by decide), fun i => ehr 12 i 45 (by decide), fun i => ehr 12 i 54 (by decide), fun i => ehr 12 i 55 (by decide), fun i => ehr 12 i 56 (by decide), fun i => ehr 12 i 58 (by decide), fun i => ehr 12 i 59 (by decide), fun i j => ehr 83 i j (by unfold tRRnr; omega), fun i j => ehr 84 i j (by unfold tRRnr; omega), fun i j => ehr 85 i j (by unfold tRRnr; omega), fun i j => ehr 86 i j (by unfold tRRnr; omega), fun i j => ehr 87 i j (by unfold tRRnr; omega), fun i j => ehr 88 i j (by unfold tRRnr; omega)]
  exact k
/-- all but the kinds l and the fields m is as it was -/
def zFx (l : List Nat) (m : List (Nat × Int)) (h h' : zH) : Prop := ∀ (c : Nat) (j : Int), c ∉ l → (c, j) ∉ m → ∀ i : Int, gt h' c i j = gt h c i j
theorem zFx.rf {l : List Nat} {m : List (Nat × Int)} (h : zH) : zFx l m h h := fun _ _ _ _ _ => rfl
theorem zFx.tr {l : List Nat} {m : List (Nat × Int)} {a b d : zH} (x : zFx l m a b) (y : zFx l m b d) : zFx l m a d := fun c j n1 n2 i => (y c j n1 n2 i).trans (x c j n1 n2 i)
theorem zFx.wk {l l' : List Nat} {m m' : List (Nat × Int)} {a b : zH} (x : zFx l m a b) (w : (l.all fun c => l'.contains c) = true) (w2 : (m.all fun q => m'.contains q || l'.contains q.1) = true) : zFx l' m' a b := fun c j n1 n2 i => by
  refine x c j (fun z => n1 ?_) (fun z => ?_) i
  · have := List.all_eq_true.mp w c z
    simpa using this
  · have := List.all_eq_true.mp w2 (c, j) z
    simp only [Bool.or_eq_true, List.contains_iff_mem] at this
    rcases this with q | q
    · exact n2 q
    · exact n1 q
theorem zFx.p1 {l : List Nat} {m : List (Nat × Int)} {a h : zH} {c : Nat} {i j v : Int} (x : zFx l m a h) (w : l.contains c = true) : zFx l m a (pt h c i j v) := fun c' j' n1 n2 i' => by
  rw [gt_pt, if_neg]
  · exact x c' j' n1 n2 i'
  · intro z; rw [z.1] at n1; exact n1 (by simpa using w)
theorem zFx.p2 {l : List Nat} {m : List (Nat × Int)} {a h : zH} {c : Nat} {i j v : Int} (x : zFx l m a h) (w : m.contains (c, j) = true) : zFx l m a (pt h c i j v) := fun c' j' n1 n2 i' => by
  rw [gt_pt, if_neg]
  · exact x c' j' n1 n2 i'
  · intro z; rw [z.1, z.2.2] at n2; exact n2 (by simpa using w)
theorem zFx.n1 {l : List Nat} {m : List (Nat × Int)} {a h : zH} {c sz : Nat} (x : zFx l m a h) (w : l.contains c = true) : zFx l m a (nw h c sz) := fun c' j' n1 n2 i' => by
  rw [gt_nw, if_neg]
  · exact x c' j' n1 n2 i'
  · intro z; rw [z.1] at n1; exact n1 (by simpa using w)
/-- what is looked at lies apart -/
def zdj (lx : List Nat) (fx : List (Nat × Int)) (l : List Nat) (m : List (Nat × Int)) : Bool := (lx.all fun c => !l.contains c && m.all fun q => q.1 != c) && fx.all fun q => !l.contains q.1 && !m.contains q
theorem zdk {lx : List Nat} {fx : List (Nat × Int)} {l : List Nat} {m : List (Nat × Int)} (d : zdj lx fx l m = true) {h h' : zH} (x : zFx l m h h') {c : Nat} (hc : lx.contains c = true) (i j : Int) : gt h' c i j = gt h c i j := by
  unfold zdj at d
  rw [Bool.and_eq_true] at d
  have := List.all_eq_true.mp d.1 c (by simpa using hc)
  rw [Bool.and_eq_true] at this
  refine x c j (by simpa using this.1) (fun z => ?_) i
  have := List.all_eq_true.mp this.2 (c, j) z
  simp at this
theorem zdf2 {lx : List Nat} {fx : List (Nat × Int)} {l : List Nat} {m : List (Nat × Int)} (d : zdj lx fx l m = true) {h h' : zH} (x : zFx l m h h') {c : Nat} {j : Int} (hc : fx.contains (c, j) = true) (i : Int) : gt h' c i j = gt h c i j := by
  unfold zdj at d
  rw [Bool.and_eq_true] at d
  have := List.all_eq_true.mp d.2 (c, j) (by simpa using hc)
  rw [Bool.and_eq_true] at this
  exact x c j (by simpa using this.1) (by simpa using this.2) i
abbrev fPIc : List (Nat × Int) := [(11, 0), (11, 1), (11, 3), (3, 0), (3, 2), (3, 4), (3, 6), (3, 7), (3, 8), (7, 0), (7, 1), (7, 2), (5, 0), (5, 1), (5, 2), (8, 0), (8, 1), (8, 2), (8, 4), (8, 6), (8, 8), (8, 10), (2, 0), (2, 1), (2, 2), (2, 3), (2, 4), (2, 5)]
theorem PIc.fr {l : List Nat} {m : List (Nat × Int)} {h h' : zH} (x : zFx l m h h') (d : zdj [] fPIc l m = true) (k : PIc h) : PIc h' := by
  unfold PIc
  simp only [zdf2 d x (c := 11) (j := 0) (by decide) 0, zdf2 d x (c := 11) (j := 1) (by decide) 0, zdf2 d x (c := 11) (j := 3) (by decide) 0, zdf2 d x (c := 3) (j := 0) (by decide) 0, zdf2 d x (c := 3) (j := 2) (by decide) 0, zdf2 d x (c := 3) (j := 4) (by decide) 0, zdf2 d x (c := 3) (j := 6) (by decide) 0, zdf2 d x (c := 3) (j := 7) (by decide) 0, zdf2 d x (c := 3) (j := 8) (by decide) 0, zdf2 d x (c := 7) (j := 0) (by decide) 0, zdf2 d x (c := 7) (j := 1) (by decide) 0, zdf2 d x (c := 7) (j := 2) (by decide) 0, zdf2 d x (c := 5) (j := 0) (by decide) 0, zdf2 d x (c := 5) (j := 1) (by decide) 0, zdf2 d x (c := 5) (j := 2) (by decide) 0, zdf2 d x (c := 8) (j := 0) (by decide) 0, zdf2 d x (c := 8) (j := 1) (by decide) 0, zdf2 d x (c := 8) (j := 2) (by decide) 0, zdf2 d x (c := 8) (j := 4) (by decide) 0, zdf2 d x (c := 8) (j := 6) (by decide) 0, zdf2 d x (c := 8) (j := 8) (by decide) 0, zdf2 d x (c := 8) (j := 10) (by decide) 0, zdf2 d x (c := 2) (j := 0) (by decide) 0, zdf2 d x (c := 2) (j := 1) (by decide) 0, zdf2 d x (c := 2) (j := 2) (by decide) 0, zdf2 d x (c := 2) (j := 3) (by decide) 0, zdf2 d x (c := 2) (j := 4) (by decide) 0, zdf2 d x (c := 2) (j := 5) (by decide) 0]
  exact k
abbrev fPIr : List (Nat × Int) := [(12, 1), (12, 2), (12, 3), (12, 5), (12, 7), (12, 8), (12, 9), (12, 10), (12, 11), (12, 13), (12, 14), (12, 15), (12, 17), (12, 18), (12, 19), (12, 20), (12, 23), (12, 24), (12, 26), (12, 27), (12, 28), (12, 29), (12, 30), (12, 31), (12, 32), (12, 35), (12, 36), (12, 37), (12, 38), (12, 39), (12, 40), (12, 41), (12, 42), (12, 46), (12, 47), (12, 48), (12, 49), (12, 50), (12, 51), (12, 63), (12, 64), (12, 65), (12, 66)]
theorem PIr.fr {l : List Nat} {m : List (Nat × Int)} {h h' : zH} (x : zFx l m h h') (d : zdj [] fPIr l m = true) (k : PIr h) : PIr h' := by
  unfold PIr
  simp only [zdf2 d x (c := 12) (j := 1) (by decide) 0, zdf2 d x (c := 12) (j := 2) (by decide) 0, zdf2 d x (c := 12) (j := 3) (by decide) 0, zdf2 d x (c := 12) (j := 5) (by decide) 0, zdf2 d x (c := 12) (j := 7) (by decide) 0, zdf2 d x (c := 12) (j := 8) (by decide) 0, zdf2 d x (c := 12) (j := 9) (by decide) 0, zdf2 d x (c := 12) (j := 10) (by decide) 0, zdf2 d x (c := 12) (j := 11) (by decide) 0, zdf2 d x (c := 12) (j := 13) (by decide) 0, zdf2 d x (c := 12) (j := 14) (by decide) 0, zdf2 d x (c := 12) (j := 15) (by decide) 0, zdf2 d x (c := 12) (j := 17) (by decide) 0, zdf2 d x (c := 12) (j := 18) (by decide) 0, zdf2 d x (c := 12) (j := 19) (by decide) 0, zdf2 d x (c := 12) (j := 20) (by decide) 0, zdf2 d x (c := 12) (j := 23) (by decide) 0, zdf2 d x (c := 12) (j := 24) (by decide) 0, zdf2 d x (c := 12) (j := 26) (by decide) 0, zdf2 d x (c := 12) (j := 27) (by decide) 0, zdf2 d x (c := 12) (j := 28) (by decide) 0, zdf2 d x (c := 12) (j := 29) (by decide) 0, zdf2 d x (c := 12) (j := 30) (by decide) 0, zdf2 d x (c := 12) (j := 31) (by decide) 0, zdf2 d x (c := 12) (j := 32) (by decide) 0, zdf2 d x (c := 12) (j := 35) (by decide) 0, zdf2 d x (c := 12) (j := 36) (by decide) 0, zdf2 d x (c := 12) (j := 37) (by decide) 0, zdf2 d x (c := 12) (j := 38) (by decide) 0, zdf2 d x (c := 12) (j := 39) (by decide) 0, zdf2 d x (c := 12) (j := 40) (by decide) 0, zdf2 d x (c := 12) (j := 41) (by decide) 0, zdf2 d x (c := 12) (j := 42) (by decide) 0, zdf2 d x (c := 12) (j := 46) (by decide) 0, zdf2 d x (c := 12) (j := 47) (by decide) 0, zdf2 d x (c := 12) (j := 48) (by decide) 0, zdf2 d x (c := 12) (j := 49) (by decide) 0, zdf2 d x (c := 12) (j := 50) (by decide) 0, zdf2 d x (c := 12) (j := 51) (by decide) 0, zdf2 d x (c := 12) (j := 63) (by decide) 0, zdf2 d x (c := 12) (j := 64) (by decide) 0, zdf2 d x (c := 12) (j := 65) (by decide) 0, zdf2 d x (c := 12) (j := 66) (by decide) 0]
  exact k
abbrev lST : List Nat := [100, 101, 102]
abbrev fST : List (Nat × Int) := []
theorem ST.fr {l : List Nat} {m : List (Nat × Int)} {h h' : zH} (x : zFx l m h h') (d : zdj lST fST l m = true) (k : ST h) : ST h' :=
  ST.cg (fun c i j t => by
    rcases t with rfl | rfl | rfl
    · exact zdk d x (by decide) i j
    · exact zdk d x (by decide) i j
    · exact zdk d x (by decide) i j) k
abbrev lSC : List Nat := [27, 39, 40, 41, 42, 49]
abbrev fSC : List (Nat × Int) := [(1, 3), (3, 1), (6, 0), (6, 5), (6, 6), (10, 0), (10, 1), (10, 2), (10, 3), (10, 7), (10, 8), (11, 2)]
theorem SC.fr {l : List Nat} {m : List (Nat × Int)} {h h' : zH} (x : zFx l m h h') (d : zdj lSC fSC l m = true) (en : h'.1 = h.1) (k : SC h) : SC h' :=
  SC.cg (fun c i j t => by
    rcases t with ⟨rfl, rfl⟩ | ⟨rfl, rfl⟩ | ⟨rfl, rfl⟩ | ⟨rfl, rfl⟩ | ⟨rfl, rfl⟩ | ⟨rfl, rfl⟩ | ⟨rfl, rfl⟩ | ⟨rfl, rfl⟩ | ⟨rfl, rfl⟩ | ⟨rfl, rfl⟩ | ⟨rfl, rfl⟩ | ⟨rfl, rfl⟩ | rfl | rfl | rfl | rfl | rfl | rfl
    · exact zdf2 d x (by decide) i
    · exact zdf2 d x (by decide) i
    · exact zdf2 d x (by decide) i
    · exact zdf2 d x (by decide) i
    · exact zdf2 d x (by decide) i
    · exact zdf2 d x (by decide) i
    · exact zdf2 d x (by decide) i
    · exact zdf2 d x (by decide) i
    · exact zdf2 d x (by decide) i
    · exact zdf2 d x (by decide) i
    · exact zdf2 d x (by decide) i
    · exact zdf2 d x (by decide) i
    · exact zdk d x (by decide) i j
    · exact zdk d x (by decide) i j
    · exact zdk d x (by decide) i j
    · exact zdk d x (by decide) i j
    · exact zdk d x (by decide) i j
    · exact zdk d x (by decide) i j) en k
abbrev lRPc : List Nat := []
abbrev fRPc : List (Nat × Int) := [(3, 1), (6, 1), (6, 2), (6, 3)]
abbrev lRPr : List Nat := [50, 51, 52]
abbrev fRPr : List (Nat × Int) := [(12, 0)]
theorem RP.fr {lc : List Nat} {mc : List (Nat × Int)} {lr : List Nat} {mr : List (Nat × Int)} {hc hc' hr hr' : zH} (xc : zFx lc mc hc hc') (dc : zdj lRPc fRPc lc mc = true) (xr : zFx lr mr hr hr') (dr : zdj lRPr fRPr lr mr = true) (k : RP hc hr) : RP hc' hr' :=
  RP.cg (fun c i j t => by
    rcases t with ⟨rfl, rfl⟩ | ⟨rfl, rfl⟩ | ⟨rfl, rfl⟩ | ⟨rfl, rfl⟩
    · exact zdf2 dc xc (by decide) i
    · exact zdf2 dc xc (by decide) i
    · exact zdf2 dc xc (by decide) i
    · exact zdf2 dc xc (by decide) i) (fun c i j t => by
    rcases t with ⟨rfl, rfl⟩ | rfl | rfl | rfl
    · exact zdf2 dr xr (by decide) i
    · exact zdk dr xr (by decide) i j
    · exact zdk dr xr (by decide) i j
    · exact zdk dr xr (by decide) i j) k
abbrev lRCc : List Nat := [28]
abbrev fRCc : List (Nat × Int) := [(3, 3)]
abbrev lRCr : List Nat := [52, 53]
abbrev fRCr : List (Nat × Int) := [(12, 0), (12, 4)]
theorem RC.fr {lc : List Nat} {mc : List (Nat × Int)} {lr : List Nat} {mr : List (Nat × Int)} {hc hc' hr hr' : zH} (xc : zFx lc mc hc hc') (dc : zdj lRCc fRCc lc mc = true) (xr : zFx lr mr hr hr') (dr : zdj lRCr fRCr lr mr = true) (k : RC hc hr) : RC hc' hr' :=
  RC.cg (fun c i j t => by
    rcases t with ⟨rfl, rfl⟩ | rfl
    · exact zdf2 dc xc (by decide) i
    · exact zdk dc xc (by decide) i j) (fun c i j t => by
    rcases t with ⟨rfl, rfl⟩ | ⟨rfl, rfl⟩ | rfl | rfl
    · exact zdf2 dr xr (by decide) i
    · exact zdf2 dr xr (by decide) i
    · exact zdk dr xr (by decide) i j
    · exact zdk dr xr (by decide) i j) k
abbrev lRPlc : List Nat := [36, 37, 38]
abbrev fRPlc : List (Nat × Int) := [(7, 3)]
abbrev lRPlr : List Nat := [54, 55, 56, 57]
abbrev fRPlr : List (Nat × Int) := [(12, 6)]
theorem RPl.fr {lc : List Nat} {mc : List (Nat × Int)} {lr : List Nat} {mr : List (Nat × Int)} {hc hc' hr hr' : zH} (xc : zFx lc mc hc hc') (dc : zdj lRPlc fRPlc lc mc = true) (xr : zFx lr mr hr hr') (dr : zdj lRPlr fRPlr lr mr = true) (k : RPl hc hr) : RPl hc' hr' :=
  RPl.cg (fun c i j t => by
    rcases t with ⟨rfl, rfl⟩ | rfl | rfl | rfl
    · exact zdf2 dc xc (by decide) i
    · exact zdk dc xc (by decide) i j
    · exact zdk dc xc (by decide) i j
    · exact zdk dc xc (by decide) i j) (fun c i j t => by
    rcases t with ⟨rfl, rfl⟩ | rfl | rfl | rfl | rfl
    · exact zdf2 dr xr (by decide) i
    · exact zdk dr xr (by decide) i j
    · exact zdk dr xr (by decide) i j
    · exact zdk dr xr (by decide) i j
    · exact zdk dr xr (by decide) i j) k
abbrev lRLgc : List Nat := [31, 32, 33]
abbrev fRLgc : List (Nat × Int) := [(5, 3), (5, 4)]
abbrev lRLgr : List Nat := [59, 60, 61]
abbrev fRLgr : List (Nat × Int) := [(12, 12)]
theorem RLg.fr {lc : List Nat} {mc : List (Nat × Int)} {lr : List Nat} {mr : List (Nat × Int)} {hc hc' hr hr' : zH} {B : Int} (xc : zFx lc mc hc hc') (dc : zdj lRLgc fRLgc lc mc = true) (xr : zFx lr mr hr hr') (dr : zdj lRLgr fRLgr lr mr = true) (k : RLg B hc hr) : RLg B hc' hr' :=
  RLg.cg (fun c i j t => by
    rcases t with ⟨rfl, rfl⟩ | ⟨rfl, rfl⟩ | rfl | rfl | rfl
    · exact zdf2 dc xc (by decide) i
    · exact zdf2 dc xc (by decide) i
    · exact zdk dc xc (by decide) i j
    · exact zdk dc xc (by decide) i j
    · exact zdk dc xc (by decide) i j) (fun c i j t => by
    rcases t with ⟨rfl, rfl⟩ | rfl | rfl | rfl
    · exact zdf2 dr xr (by decide) i
    · exact zdk dr xr (by decide) i j
    · exact zdk dr xr (by decide) i j
    · exact zdk dr xr (by decide) i j) k
abbrev lRChc : List Nat := [30]
abbrev fRChc : List (Nat × Int) := []
abbrev lRChr : List Nat := [58]
abbrev fRChr : List (Nat × Int) := []
theorem RCh.fr {lc : List Nat} {mc : List (Nat × Int)} {lr : List Nat} {mr : List (Nat × Int)} {hc hc' hr hr' : zH} (xc : zFx lc mc hc hc') (dc : zdj lRChc fRChc lc mc = true) (xr : zFx lr mr hr hr') (dr : zdj lRChr fRChr lr mr = true) (k : RCh hc hr) : RCh hc' hr' :=
  RCh.cg (fun c i j t => by
    rcases t with rfl
    · exact zdk dc xc (by decide) i j) (fun c i j t => by
    rcases t with rfl
    · exact zdk dr xr (by decide) i j) k
abbrev lRKc : List Nat := [29, 34, 35]
abbrev fRKc : List (Nat × Int) := [(3, 5), (6, 4), (6, 7)]
abbrev lRKr : List Nat := [52, 89, 90, 91, 92]
abbrev fRKr : List (Nat × Int) := [(12, 0), (12, 62)]
theorem RK.fr {lc : List Nat} {mc : List (Nat × Int)} {lr : List Nat} {mr : List (Nat × Int)} {hc hc' hr hr' : zH} (xc : zFx lc mc hc hc') (dc : zdj lRKc fRKc lc mc = true) (xr : zFx lr mr hr hr') (dr : zdj lRKr fRKr lr mr = true) (k : RK hc hr) : RK hc' hr' :=
  RK.cg (fun c i j t => by
    rcases t with ⟨rfl, rfl⟩ | ⟨rfl, rfl⟩ | ⟨rfl, rfl⟩ | rfl | rfl | rfl
    · exact zdf2 dc xc (by decide) i
    · exact zdf2 dc xc (by decide) i
    · exact zdf2 dc xc (by decide) i
    · exact zdk dc xc (by decide) i j
    · exact zdk dc xc (by decide) i j
    · exact zdk dc xc (by decide) i j) (fun c i j t => by
    rcases t with ⟨rfl, rfl⟩ | ⟨rfl, rfl⟩ | rfl | rfl | rfl | rfl | rfl
    · exact zdf2 dr xr (by decide) i
    · exact zdf2 dr xr (by decide) i
    · exact zdk dr xr (by decide) i j
    · exact zdk dr xr (by decide) i j
    · exact zdk dr xr (by decide) i j
    · exact zdk dr xr (by decide) i j
    · exact zdk dr xr (by decide) i j) k
abbrev lRRnc : List Nat := [21, 22, 23, 24, 25, 26]
abbrev fRRnc : List (Nat × Int) := [(2, 6), (8, 9), (8, 13), (8, 14), (8, 15), (8, 16), (8, 17)]
abbrev lRRnr : List Nat := [83, 84, 85, 86, 87, 88]
abbrev fRRnr : List (Nat × Int) := [(12, 44), (12, 45), (12, 54), (12, 55), (12, 56), (12, 58), (12, 59)]
theorem RRn.fr {lc : List Nat} {mc : List (Nat × Int)} {lr : List Nat} {mr : List (Nat × Int)} {hc hc' hr hr' : zH} (xc : zFx lc mc hc hc') (dc : zdj lRRnc fRRnc lc mc = true) (xr : zFx lr mr hr hr') (dr : zdj lRRnr fRRnr lr mr = true) (k : RRn hc hr) : RRn hc' hr' :=
  RRn.cg (fun c i j t => by
    rcases t with ⟨rfl, rfl⟩ | ⟨rfl, rfl⟩ | ⟨rfl, rfl⟩ | ⟨rfl, rfl⟩ | ⟨rfl, rfl⟩ | ⟨rfl, rfl⟩ | ⟨rfl, rfl⟩ | rfl | rfl | rfl | rfl | rfl | rfl
    · exact zdf2 dc xc (by decide) i
    · exact zdf2 dc xc (by decide) i
    · exact zdf2 dc xc (by decide) i
    · exact zdf2 dc xc (by decide) i
    · exact zdf2 dc xc (by decide) i
    · exact zdf2 dc xc (by decide) i
    · exact zdf2 dc xc (by decide) i
    · exact zdk dc xc (by decide) i j
    · exact zdk dc xc (by decide) i j
    · exact zdk dc xc (by decide) i j
    · exact zdk dc xc (by decide) i j
    · exact zdk dc xc (by decide) i j
    · exact zdk dc xc (by decide) i j) (fun c i j t => by
    rcases t with ⟨rfl, rfl⟩ | ⟨rfl, rfl⟩ | ⟨rfl, rfl⟩ | ⟨rfl, rfl⟩ | ⟨rfl, rfl⟩ | ⟨rfl, rfl⟩ | ⟨rfl, rfl⟩ | rfl | rfl | rfl | rfl | rfl | rfl
    · exact zdf2 dr xr (by decide) i
    · exact zdf2 dr xr (by decide) i
    · exact zdf2 dr xr (by decide) i
    · exact zdf2 dr xr (by decide) i
    · exact zdf2 dr xr (by decide) i
    · exact zdf2 dr xr (by decide) i
    · exact zdf2 dr xr (by decide) i
    · exact zdk dr xr (by decide) i j
    · exact zdk dr xr (by decide) i j
    · exact zdk dr xr (by decide) i j
    · exact zdk dr xr (by decide) i j
    · exact zdk dr xr (by decide) i j
    · exact zdk dr xr (by decide) i j) k
