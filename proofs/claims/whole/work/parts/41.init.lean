/-- what the class's constructor makes before its rows of objects -/
def zI1 (h : zH) : zH := pt (nw (pt (nw (pt (nw (pt (nw (pt (nw (pt (nw (nw (pt (pt (pt (pt (pt (nw (pt (nw (pt (nw (pt (nw (pt (nw (pt (nw (nw (pt (nw (pt (nw (pt (nw (pt (nw (nw (pt (pt (nw (pt (pt (pt (nw (pt (nw (pt (nw (nw (pt (pt (nw (pt (nw (pt (nw (nw (pt (nw (pt (nw (pt (nw (pt (nw (nw h 3 9) 27 60) 3 0 0 0) 28 60) 3 0 2 0) 29 60) 3 0 4 0) 30 8) 3 0 6 0) 7 4) 36 30) 7 0 0 0) 37 30) 7 0 1 0) 38 30) 7 0 2 0) 3 0 7 0) 5 5) 31 60) 5 0 0 0) 32 60) 5 0 1 0) 33 60) 5 0 2 0) 5 0 4 59) 3 0 8 0) 49 12) 11 0 0 0) 11 0 1 0) 8 18) 39 11) 8 0 2 0) 40 91) 8 0 4 0) 41 91) 8 0 6 0) 42 160) 8 0 8 0) 2 7) 21 16) 2 0 0 0) 22 16) 2 0 1 0) 23 16) 2 0 2 0) 24 16) 2 0 3 0) 25 16) 2 0 4 0) 26 16) 2 0 5 0) 8 0 10 0) 8 0 13 (-1)) 8 0 0 0) 8 0 1 0) 10 10) 43 40) 10 0 0 0) 44 40) 10 0 1 0) 45 40) 10 0 2 0) 46 40) 10 0 3 0) 47 8) 10 0 7 0) 48 8) 10 0 8 0
/-- what the reference's makes -/
def zI2 (h : zH) : zH := pt (nw (pt (nw (pt (nw (pt (nw (pt (pt (nw (pt (nw (pt (nw (pt (nw (pt (nw (pt (nw (pt (nw (pt (nw (pt (nw (pt (nw (pt (nw (pt (nw (pt (nw (pt (nw (pt (nw (pt (nw (pt (nw (pt (nw (pt (nw (pt (nw (pt (nw (pt (nw (pt (nw (pt (nw (pt (nw (pt (nw (pt (nw (pt (nw (pt (nw (pt (nw (pt (nw (pt (nw (pt (nw (pt (nw (pt (nw (pt (nw (pt (nw (pt (nw (pt (nw h 50 60) 12 0 1 0) 51 60) 12 0 2 0) 52 60) 12 0 3 0) 53 60) 12 0 5 0) 54 30) 12 0 7 0) 55 30) 12 0 8 0) 56 30) 12 0 9 0) 57 30) 12 0 10 0) 58 8) 12 0 11 0) 59 60) 12 0 13 0) 60 60) 12 0 14 0) 61 60) 12 0 15 0) 62 12) 12 0 17 0) 63 480) 12 0 18 0) 64 480) 12 0 19 0) 65 480) 12 0 20 0) 66 50) 12 0 23 0) 67 50) 12 0 24 0) 68 150) 12 0 26 0) 69 150) 12 0 27 0) 70 150) 12 0 28 0) 71 150) 12 0 29 0) 72 150) 12 0 30 0) 73 150) 12 0 31 0) 74 88) 12 0 32 0) 75 180) 12 0 35 0) 76 180) 12 0 36 0) 77 180) 12 0 37 0) 78 180) 12 0 38 0) 79 180) 12 0 39 0) 80 180) 12 0 40 0) 81 180) 12 0 41 0) 82 3600) 12 0 42 0) 83 16) 12 0 46 0) 84 16) 12 0 47 0) 85 16) 12 0 48 0) 86 16) 12 0 49 0) 87 16) 12 0 50 0) 88 16) 12 0 51 0) 12 0 59 (-1)) 89 60) 12 0 63 0) 90 60) 12 0 64 0) 91 60) 12 0 65 0) 92 1200) 12 0 66 0
-- class: 33 cells, 1148 slots; reference: 43 cells, 9424 slots
theorem zI1_x (h : zH) : zFx [2, 3, 5, 7, 8, 10, 11, 21, 22, 23, 24, 25, 26, 27, 28, 29, 30, 31, 32, 33, 36, 37, 38, 39, 40, 41, 42, 43, 44, 45, 46, 47, 48, 49] [] h (zI1 h) := by
  unfold zI1
  exact (((((((((((((((((((((((((((((((((((((((((((((((((((((((((((((((((((((zFx.rf h).n1 rfl).n1 rfl).p1 rfl).n1 rfl).p1 rfl).n1 rfl).p1 rfl).n1 rfl).p1 rfl).n1 rfl).n1 rfl).p1 rfl).n1 rfl).p1 rfl).n1 rfl).p1 rfl).p1 rfl).n1 rfl).n1 rfl).p1 rfl).n1 rfl).p1 rfl).n1 rfl).p1 rfl).p1 rfl).p1 rfl).n1 rfl).p1 rfl).p1 rfl).n1 rfl).n1 rfl).p1 rfl).n1 rfl).p1 rfl).n1 rfl).p1 rfl).n1 rfl).p1 rfl).n1 rfl).n1 rfl).p1 rfl).n1 rfl).p1 rfl).n1 rfl).p1 rfl).n1 rfl).p1 rfl).n1 rfl).p1 rfl).n1 rfl).p1 rfl).p1 rfl).p1 rfl).p1 rfl).p1 rfl).n1 rfl).n1 rfl).p1 rfl).n1 rfl).p1 rfl).n1 rfl).p1 rfl).n1 rfl).p1 rfl).n1 rfl).p1 rfl).n1 rfl).p1 rfl)
theorem zI2_x (h : zH) : zFx [12, 50, 51, 52, 53, 54, 55, 56, 57, 58, 59, 60, 61, 62, 63, 64, 65, 66, 67, 68, 69, 70, 71, 72, 73, 74, 75, 76, 77, 78, 79, 80, 81, 82, 83, 84, 85, 86, 87, 88, 89, 90, 91, 92] [] h (zI2 h) := by
  unfold zI2
  exact ((((((((((((((((((((((((((((((((((((((((((((((((((((((((((((((((((((((((((((((((((((((((zFx.rf h).n1 rfl).p1 rfl).n1 rfl).p1 rfl).n1 rfl).p1 rfl).n1 rfl).p1 rfl).n1 rfl).p1 rfl).n1 rfl).p1 rfl).n1 rfl).p1 rfl).n1 rfl).p1 rfl).n1 rfl).p1 rfl).n1 rfl).p1 rfl).n1 rfl).p1 rfl).n1 rfl).p1 rfl).n1 rfl).p1 rfl).n1 rfl).p1 rfl).n1 rfl).p1 rfl).n1 rfl).p1 rfl).n1 rfl).p1 rfl).n1 rfl).p1 rfl).n1 rfl).p1 rfl).n1 rfl).p1 rfl).n1 rfl).p1 rfl).n1 rfl).p1 rfl).n1 rfl).p1 rfl).n1 rfl).p1 rfl).n1 rfl).p1 rfl).n1 rfl).p1 rfl).n1 rfl).p1 rfl).n1 rfl).p1 rfl).n1 rfl).p1 rfl).n1 rfl).p1 rfl).n1 rfl).p1 rfl).n1 rfl).p1 rfl).n1 rfl).p1 rfl).n1 rfl).p1 rfl).n1 rfl).p1 rfl).n1 rfl).p1 rfl).n1 rfl).p1 rfl).n1 rfl).p1 rfl).n1 rfl).p1 rfl).p1 rfl).n1 rfl).p1 rfl).n1 rfl).p1 rfl).n1 rfl).p1 rfl).n1 rfl).p1 rfl)
theorem i_1 {h : zH} (hcn : ∀ c, c < 100 → cn h c = 0) : F_X11_init 0 (nw h 11 4) = zb (F_X8_init_78 zF 0 0 0 (zI1 (nw h 11 4))) (fun _ h4 => some (0, pt h4 11 0 3 0)) := by
  unfold F_X11_init F_X11_init_0 F_X3_init F_X3_init_0 F_X7_init F_X7_init_0 F_X5_init F_X5_init_0 F_X8_init F_X8_init_0 F_X2_init F_X2_init_0 F_X10_init F_X10_init_0 zI1
  simp [cn_pt, cn_nw, hcn, zb, zl]
theorem i_2 {h : zH} (hcn : ∀ c, 50 ≤ c → c < 100 → cn h c = 0) : F_X12_init 0 (nw h 12 68) = some (0, zI2 (nw h 12 68)) := by
  unfold F_X12_init F_X12_init_0 zI2
  simp [cn_pt, cn_nw, hcn, zl]
/-- nothing of these kinds made -/
def zCy (l : List Nat) (h h' : zH) : Prop := ∀ c, c ∉ l → cn h' c = cn h c
theorem zCy.tr {l : List Nat} {a b d : zH} (x : zCy l a b) (y : zCy l b d) : zCy l a d := fun c n => (y c n).trans (x c n)
theorem zCy.wk {l l' : List Nat} {a b : zH} (x : zCy l a b) (w : (l.all fun c => l'.contains c) = true) : zCy l' a b := fun c n => x c fun z => n (by
  have := List.all_eq_true.mp w c z
  simpa using this)
theorem i_159 : ∀ (n : Nat) (k : Nat) (h : zH), k ≤ 160 → 160 - k < n → gt h 8 0 8 = 0 → cn h 4 = k → (∀ i : Int, 0 ≤ i → i < k → gt h 42 0 i = i) → ∃ h', F_X8_init_159 n 0 k h = some (0, h') ∧ zFx [4, 42] [] h h' ∧ zCy [4] h h' ∧ (∀ i : Int, 0 ≤ i → i < 160 → gt h' 42 0 i = i) ∧ nn h' = nn h + (160 - k) ∧ us h' = us h + 8 * (160 - k)
  | 0, k, h, h0, hf, _, _, _ => by omega
  | n + 1, k, h, h0, hf, h8, hc, U => by
    show ∃ h', F_X8_init_159b (F_X8_init_159 n) 0 k h = _ ∧ _
    by_cases c : k = 160
    · subst c
      refine ⟨h, ?_, zFx.rf h, fun _ _ => rfl, fun i a b => U i a b, rfl, rfl⟩
      unfold F_X8_init_159b
      rw [if_pos (by decide), h8, if_pos (by decide), if_pos (by decide)]
    · have ck : ¬ (160 : Int) ≤ k := by omega
      have r : -2147483648 ≤ (k : Int) + 1 ∧ (k : Int) + 1 < 2147483648 := by omega
      have bk : 0 ≤ (k : Int) ∧ (k : Int) < 160 := by omega
      have hk1 : k + 1 ≤ 160 := by omega
      have hf1 : 160 - (k + 1) < n := by omega
      have e : F_X8_init_159b (F_X8_init_159 n) 0 k h = F_X8_init_159 n 0 ((k + 1 : Nat) : Int) (pt (nw h 4 8) 42 0 k k) := by
        unfold F_X8_init_159b F_X4_init F_X4_init_0
        simp [h8, ck, hc, bk, zb, gt_nw, wI_eq r]
      obtain ⟨h', w1, w2, w3, w4, w5, w6⟩ := i_159 n (k + 1) (pt (nw h 4 8) 42 0 k k) hk1 hf1 (by simp [gt_pt, gt_nw, h8]) (by simp [cn_pt, cn_nw, hc]) (fun i a b => by
        by_cases z : i = k
        · simp [gt_pt, z]
        · have := U i a (by omega)
          simp [gt_pt, gt_nw, z, this])
      rw [e]
      refine ⟨h', w1, (((zFx.rf h).n1 rfl).p1 rfl : zFx [4, 42] [] h (pt (nw h 4 8) 42 0 k k)).tr w2, fun c z => (w3 c z).trans ?_, w4, ?_, ?_⟩
      · have : c ≠ 4 := by simpa using z
        simp [cn_pt, cn_nw, this]
      · rw [w5]; show nn h + 1 + _ = _; omega
      · rw [w6]; show us h + 8 + _ = _; omega
theorem i_112 : ∀ (n : Nat) (k : Nat) (h : zH), k ≤ 91 → 91 - k < n → gt h 8 0 4 = 0 → gt h 8 0 6 = 0 → cn h 0 = k → cn h 9 = k → (∀ i : Int, 0 ≤ i → i < k → gt h 40 0 i = i ∧ gt h 41 0 i = i) → ∃ h', F_X8_init_112 n 0 k h = F_X8_init_159 zF 0 0 h' ∧ zFx [0, 9, 40, 41] [] h h' ∧ zCy [0, 9] h h' ∧ (∀ i : Int, 0 ≤ i → i < 91 → gt h' 40 0 i = i ∧ gt h' 41 0 i = i) ∧ nn h' = nn h + 2 * (91 - k) ∧ us h' = us h + 10 * (91 - k)
  | 0, k, h, h0, hf, _, _, _, _, _ => by omega
  | n + 1, k, h, h0, hf, h4, h6, hc, hc9, U => by
    show ∃ h', F_X8_init_112b (F_X8_init_112 n) 0 k h = _ ∧ _
    by_cases c : k = 91
    · subst c
      refine ⟨h, ?_, zFx.rf h, fun _ _ => rfl, fun i a b => U i a b, rfl, rfl⟩
      unfold F_X8_init_112b
      rw [if_pos (by decide), h4, if_pos (by decide), if_pos (by decide)]
    · have ck : ¬ (91 : Int) ≤ k := by omega
      have r : -2147483648 ≤ (k : Int) + 1 ∧ (k : Int) + 1 < 2147483648 := by omega
      have bk : 0 ≤ (k : Int) ∧ (k : Int) < 91 := by omega
      have hk1 : k + 1 ≤ 91 := by omega
      have hf1 : 91 - (k + 1) < n := by omega
      have e : F_X8_init_112b (F_X8_init_112 n) 0 k h = F_X8_init_112 n 0 ((k + 1 : Nat) : Int) (pt (nw (pt (nw h 0 7) 40 0 k k) 9 3) 41 0 k k) := by
        unfold F_X8_init_112b F_X0_init F_X0_init_0 F_X9_init F_X9_init_0
        simp [h4, h6, ck, hc, hc9, bk, zb, gt_nw, gt_pt, cn_pt, cn_nw, wI_eq r]
      obtain ⟨h', w1, w2, w3, w4, w5, w6⟩ := i_112 n (k + 1) (pt (nw (pt (nw h 0 7) 40 0 k k) 9 3) 41 0 k k) hk1 hf1 (by simp [gt_pt, gt_nw, h4]) (by simp [gt_pt, gt_nw, h6]) (by simp [cn_pt, cn_nw, hc]) (by simp [cn_pt, cn_nw, hc9]) (fun i a b => by
        by_cases z : i = k
        · simp [gt_pt, gt_nw, z]
        · have := U i a (by omega)
          simp [gt_pt, gt_nw, z, this])
      rw [e]
      refine ⟨h', w1, (((((zFx.rf h).n1 rfl).p1 rfl).n1 rfl).p1 rfl : zFx [0, 9, 40, 41] [] h (pt (nw (pt (nw h 0 7) 40 0 k k) 9 3) 41 0 k k)).tr w2, fun c z => (w3 c z).trans ?_, w4, ?_, ?_⟩
      · have : c ≠ 0 ∧ c ≠ 9 := by simpa using z
        simp [cn_pt, cn_nw, this]
      · rw [w5]; show nn h + 1 + 1 + _ = _; omega
      · rw [w6]; show us h + 7 + 3 + _ = _; omega
theorem i_78 {s : Int} : ∀ (n : Nat) (k : Nat) (h : zH), k ≤ 11 → 11 - k < n → gt h 8 0 2 = 0 → cn h 1 = k → cn h 20 = k → (∀ i : Int, 0 ≤ i → i < k → gt h 39 0 i = i ∧ gt h 1 i 3 = i) → ∃ h', F_X8_init_78 n 0 s k h = F_X8_init_112 zF 0 0 h' ∧ zFx [1, 20, 39] [] h h' ∧ zCy [1, 20] h h' ∧ (∀ i : Int, 0 ≤ i → i < 11 → gt h' 39 0 i = i ∧ gt h' 1 i 3 = i) ∧ nn h' = nn h + 2 * (11 - k) ∧ us h' = us h + 12 * (11 - k)
  | 0, k, h, h0, hf, _, _, _, _ => by omega
  | n + 1, k, h, h0, hf, h2, hc, hc2, U => by
    show ∃ h', F_X8_init_78b (F_X8_init_78 n) 0 s k h = _ ∧ _
    by_cases c : k = 11
    · subst c
      refine ⟨h, ?_, zFx.rf h, fun _ _ => rfl, fun i a b => U i a b, rfl, rfl⟩
      unfold F_X8_init_78b
      rw [if_pos (by decide), h2, if_pos (by decide), if_pos (by decide)]
    · have ck : ¬ (11 : Int) ≤ k := by omega
      have r : -2147483648 ≤ (k : Int) + 1 ∧ (k : Int) + 1 < 2147483648 := by omega
      have bk : 0 ≤ (k : Int) ∧ (k : Int) < 11 := by omega
      have hk1 : k + 1 ≤ 11 := by omega
      have hf1 : 11 - (k + 1) < n := by omega
      have e : F_X8_init_78b (F_X8_init_78 n) 0 s k h = F_X8_init_78 n 0 s ((k + 1 : Nat) : Int) (pt (pt (pt (nw (nw h 1 4) 20 8) 1 k 3 k) 1 k 0 s) 39 0 k k) := by
        unfold F_X8_init_78b F_X1_init F_X1_init_0
        simp [h2, ck, hc, hc2, bk, zb, gt_nw, gt_pt, cn_pt, cn_nw, wI_eq r]
      obtain ⟨h', w1, w2, w3, w4, w5, w6⟩ := i_78 (s := s) n (k + 1) (pt (pt (pt (nw (nw h 1 4) 20 8) 1 k 3 k) 1 k 0 s) 39 0 k k) hk1 hf1 (by simp [gt_pt, gt_nw, h2]) (by simp [cn_pt, cn_nw, hc]) (by simp [cn_pt, cn_nw, hc2]) (fun i a b => by
        by_cases z : i = k
        · simp [gt_pt, gt_nw, z]
        · have := U i a (by omega)
          simp [gt_pt, gt_nw, z, hc, this])
      rw [e]
      refine ⟨h', w1, ((((((zFx.rf h).n1 rfl).n1 rfl).p1 rfl).p1 rfl).p1 rfl : zFx [1, 20, 39] [] h (pt (pt (pt (nw (nw h 1 4) 20 8) 1 k 3 k) 1 k 0 s) 39 0 k k)).tr w2, fun c z => (w3 c z).trans ?_, w4, ?_, ?_⟩
      · have : c ≠ 1 ∧ c ≠ 20 := by simpa using z
        simp [cn_pt, cn_nw, this]
      · rw [w5]; show nn h + 1 + 1 + _ = _; omega
      · rw [w6]; show us h + 4 + 8 + _ = _; omega
