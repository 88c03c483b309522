/-! BLOCKS and ACTS begin -/
theorem c_push {h : zH} {op ln tu : Int} {b : Nat} (a1 : PIc h) (a4 : SC h) (e5 : gt h 8 0 5 = b) (b90 : b < 90) :
    ∃ h', F_X8_push 0 op ln tu h = some (0, h') ∧ zFx [0] [(8, 5)] h h' ∧ FrN h h' ∧ gt h' 8 0 5 = (b : Int) + 1 ∧ (gt h' 0 ((b : Int) + 1) 0 = op ∧ gt h' 0 ((b : Int) + 1) 1 = ln ∧ gt h' 0 ((b : Int) + 1) 2 = tu ∧ gt h' 0 ((b : Int) + 1) 3 = 0) ∧ ∀ i j, i ≠ (b : Int) + 1 → gt h' 0 i j = gt h 0 i j := by
  have rb : -1000000 ≤ (b : Int) + 1 ∧ (b : Int) + 1 ≤ 1000000 := by omega
  have bb : 0 ≤ (b : Int) + 1 ∧ (b : Int) + 1 < 91 := by omega
  have e40 := (a4.2.1 ((b : Int) + 1) bb.1 bb.2).1
  obtain ⟨Y, hY⟩ : ∃ Y, Y = pt h 8 0 5 ((b : Int) + 1) := ⟨_, rfl⟩
  have yx : zFx [0] [(8, 5)] h Y := by rw [hY]; exact (zFx.rf h).p2 rfl
  have y5 : gt Y 8 0 5 = (b : Int) + 1 := by rw [hY]; rfl
  have y0 : ∀ i j, gt Y 0 i j = gt h 0 i j := fun i j => by rw [hY]; simp [gt_pt]
  obtain ⟨X, hX⟩ : ∃ X, X = pt (pt (pt (pt (pt (pt (pt Y 0 ((b : Int) + 1) 0 op) 0 ((b : Int) + 1) 1 ln) 0 ((b : Int) + 1) 2 tu) 0 ((b : Int) + 1) 3 0) 0 ((b : Int) + 1) 4 (-1)) 0 ((b : Int) + 1) 5 0) 0 ((b : Int) + 1) 6 (-1) := ⟨_, rfl⟩
  refine ⟨X, ?_, by rw [hX]; exact (((((((yx.p1 rfl).p1 rfl).p1 rfl).p1 rfl).p1 rfl).p1 rfl).p1 rfl), by rw [hX, hY]; exact frpN (frpN (frpN (frpN (frpN (frpN (frpN (frpN (frrN h))))))) ), by rw [hX]; exact y5, ?_, fun i j z => by rw [hX, ← y0 i j]; simp [gt_pt, z]⟩
  · unfold F_X8_push F_X8_push_0
    rw [if_pos (Int.le_refl 0), e5, if_neg (by omega), wI_s rb, ← hY, yx 8 4 (by simp) (by decide) 0, pc_8_4 a1, if_pos (Int.le_refl 0), y5, if_pos bb, yx 40 _ (by simp) (by simp) 0, e40, if_pos bb.1]
    unfold F_X0_begin F_X0_begin_0
    rw [if_pos bb.1, ← hX]
    rfl
  · rw [hX]; simp [gt_pt]
theorem r_begin {h : zH} {op ln wt : Int} {P : Int} (a2 : PIr h) (e25 : gt h 12 0 25 = P) (P0 : 0 ≤ P) (P150 : P < 150) :
    ∃ h', F_X12_begin 0 op ln wt h = some (0, h') ∧ zFx [68, 69, 70, 71, 72, 73] [(12, 25)] h h' ∧ FrN h h' ∧ gt h' 12 0 25 = P + 1 ∧ (gt h' 68 0 P = op ∧ gt h' 69 0 P = ln ∧ gt h' 70 0 P = wt ∧ gt h' 71 0 P = 0) ∧ ∀ j, j ≠ P → gt h' 68 0 j = gt h 68 0 j ∧ gt h' 69 0 j = gt h 69 0 j ∧ gt h' 70 0 j = gt h 70 0 j ∧ gt h' 71 0 j = gt h 71 0 j ∧ gt h' 72 0 j = gt h 72 0 j ∧ gt h' 73 0 j = gt h 73 0 j := by
  have rb : -1000000 ≤ P + 1 ∧ P + 1 ≤ 1000000 := by omega
  have bb : 0 ≤ P ∧ P < 150 := ⟨P0, P150⟩
  obtain ⟨X, hX⟩ : ∃ X, X = pt (pt (pt (pt (pt (pt (pt h 68 0 P op) 69 0 P ln) 70 0 P wt) 71 0 P 0) 72 0 P (-1)) 73 0 P (-1)) 12 0 25 (P + 1) := ⟨_, rfl⟩
  refine ⟨X, ?_, by rw [hX]; exact ((((((((zFx.rf h).p1 rfl).p1 rfl).p1 rfl).p1 rfl).p1 rfl).p1 rfl).p2 rfl), by rw [hX]; exact frpN (frpN (frpN (frpN (frpN (frpN (frpN (frrN h)))))) ), by rw [hX]; rfl, by rw [hX]; simp [gt_pt], fun j z => by rw [hX]; simp [gt_pt, z]⟩
  unfold F_X12_begin F_X12_begin_0
  simp only [zl]
  simp [pr_26 a2, pr_27 a2, pr_28 a2, pr_29 a2, pr_30 a2, pr_31 a2, e25, bb, gt_pt, wI_s rb, ← hX]
theorem c_open {h : zH} {ac ln S : Int} (a1 : PIc h) (a4 : SC h) (e7 : gt h 8 0 7 = S) (s0 : 0 ≤ S) (s90 : S < 90) :
    ∃ h', F_X8_openScope 0 ac ln h = some (0, h') ∧ zFx [] [(8, 7), (9, 0), (9, 1), (9, 2)] h h' ∧ FrN h h' ∧ gt h' 8 0 7 = S + 1 ∧ (gt h' 9 (S + 1) 0 = ac ∧ gt h' 9 (S + 1) 1 = ln ∧ gt h' 9 (S + 1) 2 = -1) ∧ ∀ i j, i ≠ S + 1 → gt h' 9 i j = gt h 9 i j := by
  have rb : -1000000 ≤ S + 1 ∧ S + 1 ≤ 1000000 := by omega
  have bb : 0 ≤ S + 1 ∧ S + 1 < 91 := by omega
  have e41 := (a4.2.1 (S + 1) bb.1 bb.2).2
  obtain ⟨Y, hY⟩ : ∃ Y, Y = pt h 8 0 7 (S + 1) := ⟨_, rfl⟩
  have yx : zFx [] [(8, 7), (9, 0), (9, 1), (9, 2)] h Y := by rw [hY]; exact (zFx.rf h).p2 rfl
  have y5 : gt Y 8 0 7 = S + 1 := by rw [hY]; rfl
  have y0 : ∀ i j, gt Y 9 i j = gt h 9 i j := fun i j => by rw [hY]; simp [gt_pt]
  obtain ⟨X, hX⟩ : ∃ X, X = pt (pt (pt Y 9 (S + 1) 0 ac) 9 (S + 1) 1 ln) 9 (S + 1) 2 (-1) := ⟨_, rfl⟩
  refine ⟨X, ?_, by rw [hX]; exact ((yx.p2 rfl).p2 rfl).p2 rfl, by rw [hX, hY]; exact frpN (frpN (frpN (frpN (frrN h)))), by rw [hX]; exact y5, by rw [hX]; simp [gt_pt], fun i j z => by rw [hX, ← y0 i j]; simp [gt_pt, z]⟩
  unfold F_X8_openScope F_X8_openScope_0
  rw [if_pos (Int.le_refl 0), e7, if_neg (by omega), wI_s rb, ← hY, yx 8 6 (by simp) (by decide) 0, pc_8_6 a1, if_pos (Int.le_refl 0), y5, if_pos bb, yx 41 _ (by simp) (by simp) 0, e41, if_pos bb.1]
  unfold F_X9_begin F_X9_begin_0
  rw [if_pos bb.1, ← hX]
  rfl
/-- the SLOTS of an ACT that begins -/
theorem c_slots {i fi : Int} (i0 : 0 ≤ i) : ∀ (f : Nat) (s : Int) (h : zH), gt h 1 i 3 = i → 0 ≤ s → s ≤ 8 → 8 - s < f → ∃ h', F_X1_begin_18 f i fi s h = some (0, h') ∧ zFx [20] [] h h' ∧ FrN h h' ∧ (∀ x j, x ≠ i → gt h' 20 x j = gt h 20 x j) ∧ ∀ j, 0 ≤ j → j < 8 → gt h' 20 i j = if j = 0 then fi else if s ≤ j then -1 else gt h 20 i j
  | 0, s, h, _, _, _, hf => by omega
  | f + 1, s, h, e3, s0, s8, hf => by
    show ∃ h', F_X1_begin_18b (F_X1_begin_18 f) i fi s h = some (0, h') ∧ _
    unfold F_X1_begin_18b
    by_cases c : 8 ≤ s
    · refine ⟨pt h 20 i 0 fi, ?_, (zFx.rf h).p1 rfl, frpN (frrN h), fun x j z => by simp [gt_pt, z], fun j j0 j1 => ?_⟩
      · rw [if_pos c, if_pos i0, e3, if_pos i0]
      · by_cases z : j = 0
        · rw [if_pos z, z]; simp [gt_pt]
        · rw [if_neg z, if_neg (by omega)]; simp [gt_pt, z]
    · have rs : -1000000 ≤ s + 1 ∧ s + 1 ≤ 1000000 := by omega
      obtain ⟨h', g1, g2, g3, g4, g5⟩ := c_slots (fi := fi) i0 f (s + 1) (pt h 20 i s (-1)) e3 (by omega) (by omega) (by omega)
      refine ⟨h', ?_, ((zFx.rf h).p1 rfl).tr g2, (frpN (frrN h)).tr g3, fun x j z => by rw [g4 x j z]; simp [gt_pt, z], fun j j0 j1 => ?_⟩
      · rw [if_neg c, if_pos i0, e3, if_pos i0, if_pos ⟨s0, by omega⟩, wI_s rs]; exact g1
      · rw [g5 j j0 j1]
        by_cases z : j = 0
        · rw [if_pos z, if_pos z]
        · rw [if_neg z, if_neg z]
          by_cases w : j = s
          · rw [if_neg (by omega), if_pos (by omega), w]; simp [gt_pt]
          · by_cases v : s ≤ j
            · rw [if_pos (by omega), if_pos v]
            · rw [if_neg (by omega), if_neg v]; simp [gt_pt, w]
theorem c_enter {h : zH} {n fi k S : Int} {b : Nat} (a1 : PIc h) (a4 : SC h) (e3 : gt h 8 0 3 = k) (e5 : gt h 8 0 5 = b) (e7 : gt h 8 0 7 = S) (k0 : 0 ≤ k) (k10 : k < 10) (b90 : b < 90) (s0 : 0 ≤ S) (s90 : S < 90) (n0 : 0 ≤ n) :
    ∃ h', F_X8_enter 0 (n + 1) n fi h = some (0, h') ∧ zFx [0, 20] [(1, 0), (1, 1), (1, 2), (8, 3), (8, 5), (8, 7), (9, 0), (9, 1), (9, 2)] h h' ∧ FrN h h' ∧ (gt h' 8 0 3 = k + 1 ∧ gt h' 8 0 5 = (b : Int) + 1 ∧ gt h' 8 0 7 = S + 1) ∧ (gt h' 1 (k + 1) 0 = n + 1 ∧ gt h' 1 (k + 1) 1 = n ∧ gt h' 1 (k + 1) 2 = 0) ∧ (∀ i j, i ≠ k + 1 → gt h' 1 i j = gt h 1 i j) ∧ gt h' 0 ((b : Int) + 1) 0 = 17 ∧ (∀ i j, i ≠ (b : Int) + 1 → gt h' 0 i j = gt h 0 i j) ∧ (gt h' 9 (S + 1) 0 = n ∧ gt h' 9 (S + 1) 1 = -1 ∧ gt h' 9 (S + 1) 2 = -1) ∧ (∀ i j, i ≠ S + 1 → gt h' 9 i j = gt h 9 i j) ∧ (∀ s, 0 ≤ s → s < 8 → gt h' 20 (k + 1) s = if s = 0 then fi else -1) ∧ ∀ i s, i ≠ k + 1 → gt h' 20 i s = gt h 20 i s := by
  have rk : -1000000 ≤ k + 1 ∧ k + 1 ≤ 1000000 := by omega
  have kb : 0 ≤ k + 1 ∧ k + 1 < 11 := by omega
  have hz := zF_i
  obtain ⟨e39, e13⟩ := a4.1 (k + 1) kb.1 kb.2
  obtain ⟨X, hX⟩ : ∃ X, X = pt (pt (pt (pt h 8 0 3 (k + 1)) 1 (k + 1) 0 (n + 1)) 1 (k + 1) 1 n) 1 (k + 1) 2 0 := ⟨_, rfl⟩
  have x1 : zFx [] [(1, 0), (1, 1), (1, 2), (8, 3)] h X := by rw [hX]; exact ((((zFx.rf h).p2 rfl).p2 rfl).p2 rfl).p2 rfl
  have nx : FrN h X := by rw [hX]; exact frpN (frpN (frpN (frpN (frrN h))))
  have v1 : gt X 8 0 3 = k + 1 ∧ gt X 1 (k + 1) 0 = n + 1 ∧ gt X 1 (k + 1) 1 = n ∧ gt X 1 (k + 1) 2 = 0 := by rw [hX]; simp [gt_pt]
  have w1 : ∀ i j, i ≠ k + 1 → gt X 1 i j = gt h 1 i j := fun i j z => by rw [hX]; simp [gt_pt, z]
  obtain ⟨Y, y1, y2, y3, y4, y5⟩ := c_slots (fi := fi) kb.1 zF 0 X (by rw [x1 1 3 (by simp) (by decide) (k + 1)]; exact e13) (Int.le_refl 0) (by decide) (by omega)
  have xy : zFx [20] [(1, 0), (1, 1), (1, 2), (8, 3)] h Y := (x1.wk rfl rfl).tr (y2.wk rfl rfl)
  have ny : FrN h Y := nx.tr y3
  obtain ⟨Z, z1, z2, z3, z4, z5, z6⟩ := c_push (op := 17) (ln := -1) (tu := 0) (a1.fr xy rfl) (a4.fr xy rfl ny.1) ((xy 8 5 (by simp) (by decide) 0).trans e5) b90
  have xz : zFx [0, 20] [(1, 0), (1, 1), (1, 2), (8, 3), (8, 5)] h Z := (xy.wk rfl rfl).tr (z2.wk rfl rfl)
  have nz : FrN h Z := ny.tr z3
  obtain ⟨W, u1, u2, u3, u4, u5, u6⟩ := c_open (ac := n) (ln := -1) (a1.fr xz rfl) (a4.fr xz rfl nz.1) ((xz 8 7 (by simp) (by decide) 0).trans e7) s0 s90
  have q1 : ∀ i (j : Int), j < 3 → gt W 1 i j = gt X 1 i j := fun i j hj => by
    rw [u2 1 j (by simp) (by simp) i, z2 1 j (by simp) (by simp) i, y2 1 j (by simp) (by simp) i]
  refine ⟨W, ?_, (xz.wk rfl rfl).tr (u2.wk rfl rfl), nz.tr u3, ⟨?_, ?_, u4⟩, ?_, fun i j z => ?_, ?_, fun i j z => ?_, u5, fun i j z => ?_, fun s s0 s8 => ?_, fun i s z => ?_⟩
  · unfold F_X8_enter F_X8_enter_0
    have t2 : gt (pt h 8 0 3 (k + 1)) 8 0 2 = 0 := pc_8_2 a1
    have t3 : gt (pt h 8 0 3 (k + 1)) 8 0 3 = k + 1 := rfl
    have t39 : gt (pt h 8 0 3 (k + 1)) 39 0 (k + 1) = k + 1 := e39
    rw [if_neg (by omega), if_pos (Int.le_refl 0), e3, if_neg (by omega), wI_s rk, t2, if_pos (Int.le_refl 0), t3, if_pos kb, t39, if_pos kb.1]
    unfold F_X1_begin F_X1_begin_0
    rw [if_pos kb.1, ← hX, y1]
    simp only [zb]
    rw [z1]
    simp only []
    rw [u1]
  · rw [u2 8 3 (by simp) (by decide) 0, z2 8 3 (by simp) (by decide) 0, y2 8 3 (by simp) (by simp) 0]; exact v1.1
  · rw [u2 8 5 (by simp) (by decide) 0]; exact z4
  · rw [q1 _ _ (by decide), q1 _ _ (by decide), q1 _ _ (by decide)]; exact v1.2
  · rw [u2 1 j (by simp) (by simp) i, z2 1 j (by simp) (by simp) i, y2 1 j (by simp) (by simp) i]; exact w1 i j z
  · rw [u2 0 0 (by simp) (by decide) _]; exact z5.1
  · rw [u2 0 j (by simp) (by simp) i, z6 i j z, y2 0 j (by simp) (by simp) i, x1 0 j (by simp) (by simp) i]
  · rw [u6 i j z, z2 9 j (by simp) (by simp) i, y2 9 j (by simp) (by simp) i, x1 9 j (by simp) (by simp) i]
  · rw [u2 20 s (by simp) (by simp) _, z2 20 s (by simp) (by simp) _, y5 s s0 s8, if_pos s0]
  · rw [u2 20 s (by simp) (by simp) _, z2 20 s (by simp) (by simp) _, y4 i s z, x1 20 s (by simp) (by simp) i]
theorem r_slots {n fi k : Int} {P : Int} (k0 : 0 ≤ k) (k10 : k < 10) (P0 : 0 ≤ P) (P140 : P < 140) {so : Int} (so0 : 0 ≤ so ∧ so ≤ 1000) : ∀ (f : Nat) (s : Int) (h : zH), PIr h → gt h 12 0 33 = k → gt h 12 0 25 = P → gt h 12 0 44 = so → 0 ≤ s → s ≤ 8 → 8 - s < f →
    ∃ h', F_X12_beginAct_2 f 0 n fi s h = some (0, h') ∧ zFx [68, 69, 70, 71, 72, 73, 74] [(12, 25), (12, 33), (12, 44), (12, 67)] h h' ∧ FrN h h' ∧ (gt h' 12 0 25 = P + 2 ∧ gt h' 12 0 33 = k + 1 ∧ gt h' 12 0 44 = so + 1 ∧ gt h' 12 0 67 = P) ∧ (gt h' 68 0 P = 17 ∧ gt h' 70 0 P = n ∧ gt h' 72 0 P = 0) ∧ (gt h' 68 0 (P + 1) = 12 ∧ gt h' 69 0 (P + 1) = -1 ∧ gt h' 70 0 (P + 1) = so) ∧ (∀ j, j < P → gt h' 68 0 j = gt h 68 0 j ∧ gt h' 69 0 j = gt h 69 0 j ∧ gt h' 70 0 j = gt h 70 0 j ∧ gt h' 71 0 j = gt h 71 0 j ∧ gt h' 72 0 j = gt h 72 0 j ∧ gt h' 73 0 j = gt h 73 0 j) ∧ (∀ j, j < 8 * k → gt h' 74 0 j = gt h 74 0 j) ∧ ∀ j, 0 ≤ j → j < 8 → gt h' 74 0 (8 * k + j) = if j = 0 then fi else if s ≤ j then -1 else gt h 74 0 (8 * k + j)
  | 0, s, h, _, _, _, _, _, _, hf => by omega
  | f + 1, s, h, a2, e33, e25, e44, s0, s8, hf => by
    show ∃ h', F_X12_beginAct_2b (F_X12_beginAct_2 f) 0 n fi s h = some (0, h') ∧ _
    have r8 : -1000000 ≤ 8 * k ∧ 8 * k ≤ 1000000 := by omega
    by_cases c : 8 ≤ s
    · have b8 : 0 ≤ 8 * k ∧ 8 * k < 88 := by omega
      have rk : -1000000 ≤ k + 1 ∧ k + 1 ≤ 1000000 := by omega
      have rP : -1000000 ≤ P + 1 - 1 ∧ P + 1 - 1 ≤ 1000000 := by omega
      have rs : -1000000 ≤ so + 1 ∧ so + 1 ≤ 1000000 := by omega
      have ep : P + 1 - 1 = P := by omega
      have bP : 0 ≤ P ∧ P < 150 := by omega
      obtain ⟨X, hX⟩ : ∃ X, X = pt (pt h 74 0 (8 * k) fi) 12 0 33 (k + 1) := ⟨_, rfl⟩
      have x1 : zFx [74] [(12, 33)] h X := by rw [hX]; exact ((zFx.rf h).p1 rfl).p2 rfl
      have nx : FrN h X := by rw [hX]; exact frpN (frpN (frrN h))
      have v74 : ∀ j, gt X 74 0 j = if j = 8 * k then fi else gt h 74 0 j := fun j => by rw [hX]; by_cases z : j = 8 * k <;> simp [gt_pt, z]
      have v33 : gt X 12 0 33 = k + 1 := by rw [hX]; rfl
      obtain ⟨Y, y1, y2, y3, y4, y5, y6⟩ := r_begin (op := 17) (ln := -1) (wt := n) (a2.fr x1 rfl) ((x1 12 25 (by simp) (by decide) 0).trans e25) P0 (by omega)
      have d2 : PIr Y := (a2.fr x1 rfl).fr y2 rfl
      obtain ⟨Y2, hY2⟩ : ∃ Y2, Y2 = pt (pt (pt Y 71 0 P 0) 12 0 67 P) 72 0 P 0 := ⟨_, rfl⟩
      have xy2 : zFx [71, 72] [(12, 67)] Y Y2 := by rw [hY2]; exact (((zFx.rf Y).p1 rfl).p2 rfl).p1 rfl
      have ny2 : FrN Y Y2 := by rw [hY2]; exact frpN (frpN (frpN (frrN Y)))
      have d22 : PIr Y2 := d2.fr xy2 rfl
      have v25 : gt Y2 12 0 25 = P + 1 := (xy2 12 25 (by simp) (by decide) 0).trans y4
      obtain ⟨Z, z1, z2, z3, z4, z5, z6⟩ := r_begin (op := 12) (ln := -1) (wt := so) d22 v25 (by omega) (by omega)
      obtain ⟨W, hW⟩ : ∃ W, W = pt Z 12 0 44 (so + 1) := ⟨_, rfl⟩
      have xw : zFx [] [(12, 44)] Z W := by rw [hW]; exact (zFx.rf Z).p2 rfl
      have xY2 : zFx [68, 69, 70, 71, 72, 73, 74] [(12, 25), (12, 33), (12, 44), (12, 67)] h Y2 := ((x1.wk rfl rfl).tr (y2.wk rfl rfl)).tr (xy2.wk rfl rfl)
      have g44 : gt Y2 12 0 44 = so := by rw [xy2 12 44 (by simp) (by decide) 0, y2 12 44 (by simp) (by decide) 0, x1 12 44 (by simp) (by decide) 0]; exact e44
      have z44 : gt Z 12 0 44 = so := (z2 12 44 (by simp) (by decide) 0).trans g44
      have q68 : ∀ d : Nat, d = 68 ∨ d = 69 ∨ d = 70 → ∀ j, gt Y2 d 0 j = gt Y d 0 j := fun d hd j => by
        rcases hd with rfl | rfl | rfl
        · exact xy2 68 j (by simp) (by simp) 0
        · exact xy2 69 j (by simp) (by simp) 0
        · exact xy2 70 j (by simp) (by simp) 0
      have q72 : ∀ j, j ≠ P → gt Y2 71 0 j = gt Y 71 0 j ∧ gt Y2 72 0 j = gt Y 72 0 j ∧ gt Y2 73 0 j = gt Y 73 0 j := fun j z => by rw [hY2]; simp [gt_pt, z]
      have q72P : gt Y2 72 0 P = 0 := by rw [hY2]; simp [gt_pt]
      have wz : ∀ (d : Nat) (j : Int), d ≠ 12 → gt W d 0 j = gt Z d 0 j := fun d j z => xw d j (by simp) (by simp [z]) 0
      refine ⟨W, ?_, (xY2.tr (z2.wk rfl rfl)).tr (xw.wk rfl rfl), ((nx.tr y3).tr ny2).tr (z3.tr (by rw [hW]; exact frpN (frrN Z))), ⟨?_, ?_, by rw [hW]; rfl, ?_⟩, ⟨?_, ?_, ?_⟩, ⟨?_, ?_, ?_⟩, fun j hj => ?_, fun j hj => ?_, fun j j0 j8 => ?_⟩
      · unfold F_X12_beginAct_2b
        have t33 : gt (pt h 74 0 (8 * k) fi) 12 0 33 = k := e33
        rw [if_pos c, if_pos (Int.le_refl 0), pr_32 a2, if_pos (Int.le_refl 0), e33, wI_s r8, if_pos b8]
        simp only [zl]
        rw [t33, wI_s rk, ← hX, y1]
        simp only [zb]
        have t25 : gt (pt Y 71 0 P 0) 12 0 25 = P + 1 := y4
        rw [pr_29 d2, if_pos (Int.le_refl 0), y4, wI_s rP, ep, if_pos bP, t25, wI_s rP, ep, s_goTo (h := pt (pt Y 71 0 P 0) 12 0 67 P) (a := P) (d2.fr (l := [71]) (m := [(12, 67)]) (((zFx.rf Y).p1 rfl).p2 rfl) rfl) rfl bP.1 bP.2]
        simp only []
        rw [← hY2]
        unfold F_X12_beginScope F_X12_beginScope_0
        rw [if_pos (Int.le_refl 0), g44, z1]
        simp only [zb]
        rw [z44, wI_s rs, hW]
      · rw [xw 12 25 (by simp) (by decide) 0, z4]; omega
      · rw [xw 12 33 (by simp) (by decide) 0, z2 12 33 (by simp) (by decide) 0, xy2 12 33 (by simp) (by decide) 0, y2 12 33 (by simp) (by decide) 0]; exact v33
      · rw [xw 12 67 (by simp) (by decide) 0, z2 12 67 (by simp) (by decide) 0, hY2]; rfl
      · rw [wz 68 _ (by decide), (z6 P (by omega)).1, q68 68 (by decide)]; exact y5.1
      · rw [wz 70 _ (by decide), (z6 P (by omega)).2.2.1, q68 70 (by decide)]; exact y5.2.2.1
      · rw [wz 72 _ (by decide), (z6 P (by omega)).2.2.2.2.1]; exact q72P
      · rw [wz 68 _ (by decide)]; exact z5.1
      · rw [wz 69 _ (by decide)]; exact z5.2.1
      · rw [wz 70 _ (by decide)]; exact z5.2.2.1
      · have a := z6 j (by omega)
        have b := q72 j (by omega)
        have d := y6 j (by omega)
        rw [wz 68 _ (by decide), wz 69 _ (by decide), wz 70 _ (by decide), wz 71 _ (by decide), wz 72 _ (by decide), wz 73 _ (by decide), a.1, a.2.1, a.2.2.1, a.2.2.2.1, a.2.2.2.2.1, a.2.2.2.2.2, q68 68 (by decide), q68 69 (by decide), q68 70 (by decide), b.1, b.2.1, b.2.2, d.1, d.2.1, d.2.2.1, d.2.2.2.1, d.2.2.2.2.1, d.2.2.2.2.2]
        exact ⟨x1 68 j (by simp) (by simp) 0, x1 69 j (by simp) (by simp) 0, x1 70 j (by simp) (by simp) 0, x1 71 j (by simp) (by simp) 0, x1 72 j (by simp) (by simp) 0, x1 73 j (by simp) (by simp) 0⟩
      · rw [wz 74 _ (by decide), z2 74 j (by simp) (by simp) 0, xy2 74 j (by simp) (by simp) 0, y2 74 j (by simp) (by simp) 0, v74, if_neg (by omega)]
      · rw [wz 74 _ (by decide), z2 74 _ (by simp) (by simp) 0, xy2 74 _ (by simp) (by simp) 0, y2 74 _ (by simp) (by simp) 0, v74]
        by_cases z : j = 0
        · rw [if_pos (by omega), if_pos z]
        · rw [if_neg (by omega), if_neg z, if_neg (by omega)]
    · have rs : -1000000 ≤ s + 1 ∧ s + 1 ≤ 1000000 := by omega
      have ri : -1000000 ≤ 8 * k + s ∧ 8 * k + s ≤ 1000000 := by omega
      have bi : 0 ≤ 8 * k + s ∧ 8 * k + s < 88 := by omega
      have x1 : zFx [74] [] h (pt h 74 0 (8 * k + s) (-1)) := (zFx.rf h).p1 rfl
      have v74 : ∀ j, gt (pt h 74 0 (8 * k + s) (-1)) 74 0 j = if j = 8 * k + s then -1 else gt h 74 0 j := fun j => by by_cases z : j = 8 * k + s <;> simp [gt_pt, z]
      obtain ⟨h', g1, g2, g3, g4, g5, g6, g7, g8, g9⟩ := r_slots (n := n) (fi := fi) k0 k10 P0 P140 so0 f (s + 1) (pt h 74 0 (8 * k + s) (-1)) (a2.fr x1 rfl) e33 e25 e44 (by omega) (by omega) (by omega)
      refine ⟨h', ?_, (x1.wk rfl rfl).tr g2, (frpN (frrN h)).tr g3, g4, g5, g6, fun j hj => g7 j hj, fun j hj => by rw [g8 j hj, v74, if_neg (by omega)], fun j j0 j8 => ?_⟩
      · unfold F_X12_beginAct_2b
        rw [if_neg c, if_pos (Int.le_refl 0), pr_32 a2, if_pos (Int.le_refl 0), e33, wI_s r8, wI_s ri, if_pos bi, wI_s rs]; exact g1
      · rw [g9 j j0 j8]
        by_cases z : j = 0
        · rw [if_pos z, if_pos z]
        · rw [if_neg z, if_neg z, v74]
          by_cases w : j = s
          · rw [if_neg (by omega), if_pos (by omega), if_pos (by omega)]
          · by_cases v : s ≤ j
            · rw [if_pos (by omega), if_pos v]
            · rw [if_neg (by omega), if_neg v, if_neg (by omega)]
