/-! TRACES, and what hires out: BORROW, TAKE, HOLD -/
def TA (hc hr : zH) (P k a : Int) : Prop := ∃ pl : Int → Int, (∀ i j, 1 ≤ i → i < j → j ≤ k → pl i < pl j) ∧ (∀ i, 1 ≤ i → i ≤ k → 0 ≤ pl i ∧ pl i < P ∧ gt hr 68 0 (pl i) = 17 ∧ gt hr 70 0 (pl i) = gt hc 1 i 1 ∧ (i < k → gt hr 73 0 (pl i) = gt hc 1 i 2)) ∧ (∀ j, 0 ≤ j → j < P → gt hr 68 0 j = 17 → ∃ i, 1 ≤ i ∧ i ≤ k ∧ pl i = j) ∧ (1 ≤ k → pl k = a)
theorem Stk.ta {hc hr : zH} {sid : Int → Int} : ∀ {b : Nat} {k S a : Int} {cx : zK}, Stk hc hr sid b k S a cx → TA hc hr (b + k) k a
  | 0, k, S, a, cx, h => by
    obtain ⟨rfl, rfl, rfl, rfl⟩ := h
    exact ⟨fun _ => 0, fun i j a b c => by omega, fun i a b => by omega, fun j a b => by omega, fun z => by omega⟩
  | b + 1, k, S, a, cx, h => by
    have k0 := h.bd.1
    have up : ∀ {cx' : zK} {S' : Int} {op : Int}, Stk hc hr sid b k S' a cx' → op ≠ 17 → gt hr 68 0 (b + k) = op → TA hc hr (((b + 1 : Nat) : Int) + k) k a := fun {cx' S' op} t o e => by
      obtain ⟨pl, p1, p2, p3, p4⟩ := t.ta
      refine ⟨pl, p1, fun i i1 i2 => ?_, fun j j0 j1 z => ?_, p4⟩
      · obtain ⟨q1, q2, q3⟩ := p2 i i1 i2
        exact ⟨q1, by omega, q3⟩
      · refine p3 j j0 ?_ z
        have : j ≠ b + k := fun w => o (by rw [← e, ← w]; exact z)
        omega
    rcases h with ⟨h1, h2, h3, h4, a', cx', h5, h6⟩ | ⟨L, M, cx', rfl, h | h | h⟩
    · obtain ⟨x1, x2, x3, x4, x5, _⟩ := h2
      obtain ⟨pl, p1, p2, p3, p4⟩ := h6.ta
      refine ⟨fun i => if i = k then b + k - 1 else pl i, fun i j i1 ij jk => ?_, fun i i1 i2 => ?_, fun j j0 j1 z => ?_, fun _ => by rw [h3]; exact if_pos rfl⟩
      · show (if i = k then (b : Int) + k - 1 else pl i) < (if j = k then (b : Int) + k - 1 else pl j)
        rw [if_neg (by omega)]
        by_cases c : j = k
        · rw [if_pos c]
          have := (p2 i i1 (by omega)).2.1
          omega
        · rw [if_neg c]; exact p1 i j i1 ij (by omega)
      · by_cases c : i = k
        · simp only [if_pos c]
          rw [c]
          exact ⟨by omega, by omega, x3, x4, fun z => by omega⟩
        · simp only [if_neg c]
          obtain ⟨q1, q2, q3, q4, q5⟩ := p2 i i1 (by omega)
          refine ⟨q1, by omega, q3, q4, fun _ => ?_⟩
          by_cases d : i = k - 1
          · rcases h5 with w | ⟨t, m', z1, z2, z3, _⟩
            · omega
            · rw [d, p4 (by omega), z1, z3]
          · exact q5 (by omega)
      · by_cases c : j = b + k - 1
        · exact ⟨k, x1, Int.le_refl k, by rw [c]; exact if_pos rfl⟩
        · have : j ≠ b + k := fun w => by rw [w, x5] at z; cases z
          obtain ⟨i, i1, i2, i3⟩ := p3 j j0 (by omega) z
          exact ⟨i, i1, by omega, by rw [← i3]; exact if_neg (by omega)⟩
    · exact up h.2.2.2 (by decide) h.1.2.2.1
    · exact up h.2.2.2 (by decide) h.1.2.2.1
    · exact up h.2.2 (by decide) h.1.2.2.1
theorem c_tr {q k : Int} (k10 : k ≤ 10) (q0 : 0 ≤ q) : ∀ (f : Nat) (i : Int) (h : zH), PIc h → (∀ i, 0 ≤ i → i < 11 → gt h 39 0 i = i) → gt h 8 0 3 = k → gt h 6 q 5 = q → gt h 6 q 6 = q → 1 ≤ i → i ≤ k + 1 → gt h 6 q 7 = i - 1 → k + 1 - i < f →
    ∃ h', F_X8_hire_42 f 0 q i h = some (0, h') ∧ zFx [34, 35] [(6, 7)] h h' ∧ FrN h h' ∧ gt h' 6 q 7 = k ∧ (∀ x, x ≠ q → gt h' 6 x 7 = gt h 6 x 7 ∧ gt h' 34 x = gt h 34 x ∧ gt h' 35 x = gt h 35 x) ∧ (∀ j, j < i - 1 → gt h' 34 q j = gt h 34 q j ∧ gt h' 35 q j = gt h 35 q j) ∧ ∀ j, i - 1 ≤ j → j < k → gt h' 34 q j = gt h 1 (j + 1) 1 ∧ gt h' 35 q j = gt h 1 (j + 1) 2
  | 0, i, h, _, _, _, _, _, _, _, _, hf => by omega
  | f + 1, i, h, a1, H, h3, q5, q6, i1, i2, w, hf => by
    show ∃ h', F_X8_hire_42b (F_X8_hire_42 f) 0 q i h = some (0, h') ∧ _
    unfold F_X8_hire_42b
    rw [if_pos (by decide), h3]
    by_cases c : k < i
    · rw [if_pos c]
      exact ⟨h, rfl, zFx.rf h, frrN h, by omega, fun _ _ => ⟨rfl, rfl, rfl⟩, fun _ _ => ⟨rfl, rfl⟩, fun j a b => by omega⟩
    · have ib : 0 ≤ i ∧ i < 11 := by omega
      have wb : 0 ≤ i - 1 ∧ i - 1 < 10 := by omega
      have ri : -1000000 ≤ i + 1 ∧ i + 1 ≤ 1000000 := by omega
      have rw' : -1000000 ≤ i - 1 + 1 ∧ i - 1 + 1 ≤ 1000000 := by omega
      obtain ⟨X, hX⟩ : ∃ X, X = pt (pt (pt h 34 q (i - 1) (gt h 1 i 1)) 35 q (i - 1) (gt h 1 i 2)) 6 q 7 (i - 1 + 1) := ⟨_, rfl⟩
      have ea : F_X6_addToTrace q (gt h 1 i 1) (gt h 1 i 2) h = some (0, X) := by
        rw [hX]
        unfold F_X6_addToTrace F_X6_addToTrace_0
        rw [if_pos q0, w, s_within, if_pos wb]
        simp only [zb, zl]
        have t1 : gt (pt h 34 q (i - 1) (gt h 1 i 1)) 6 q 6 = q := q6
        have t2 : gt (pt h 34 q (i - 1) (gt h 1 i 1)) 6 q 7 = i - 1 := w
        have t3 : gt (pt (pt h 34 q (i - 1) (gt h 1 i 1)) 35 q (i - 1) (gt h 1 i 2)) 6 q 7 = i - 1 := w
        rw [if_neg (by decide), q5, if_pos q0, w, if_pos wb, t1, if_pos q0, t2, if_pos wb, t3, wI_s rw']
      have x1 : zFx [34, 35] [(6, 7)] h X := by rw [hX]; exact (((zFx.rf h).p1 rfl).p1 rfl).p2 rfl
      have n1 : FrN h X := by rw [hX]; exact frpN (frpN (frpN (frrN h)))
      have e34 : ∀ x j, gt X 34 x j = if x = q ∧ j = i - 1 then gt h 1 i 1 else gt h 34 x j := fun x j => by rw [hX]; by_cases z : x = q ∧ j = i - 1 <;> simp [gt_pt, z]
      have e35 : ∀ x j, gt X 35 x j = if x = q ∧ j = i - 1 then gt h 1 i 2 else gt h 35 x j := fun x j => by rw [hX]; by_cases z : x = q ∧ j = i - 1 <;> simp [gt_pt, z]
      have e67 : ∀ x, gt X 6 x 7 = if x = q then i - 1 + 1 else gt h 6 x 7 := fun x => by rw [hX]; by_cases z : x = q <;> simp [gt_pt, z]
      obtain ⟨h', g1, g2, g3, g4, g5, g6, g7⟩ := c_tr k10 q0 f (i + 1) X (a1.fr x1 rfl) (fun j a b => (x1 39 j (by simp) (by simp) 0).trans (H j a b)) ((x1 8 3 (by simp) (by decide) 0).trans h3) ((x1 6 5 (by simp) (by decide) q).trans q5) ((x1 6 6 (by simp) (by decide) q).trans q6) (by omega) (by omega) (by rw [e67, if_pos rfl]; omega) (by omega)
      refine ⟨h', ?_, x1.tr g2, n1.tr g3, g4, fun x xq => ?_, fun j hj => ?_, fun j j0 j1 => ?_⟩
      · rw [if_neg c, if_neg (by omega), pc_8_2 a1, if_pos (by decide), if_pos ib, H i ib.1 ib.2, if_pos ib.1, if_pos q0, ea]
        simp only [zb]
        rw [wI_s ri]; exact g1
      · obtain ⟨w1, w2, w3⟩ := g5 x xq
        refine ⟨by rw [w1, e67, if_neg xq], by rw [w2]; funext j; rw [e34, if_neg (fun z => xq z.1)], by rw [w3]; funext j; rw [e35, if_neg (fun z => xq z.1)]⟩
      · obtain ⟨w1, w2⟩ := g6 j (by omega)
        rw [w1, w2, e34, e35, if_neg (by omega), if_neg (by omega)]
        exact ⟨rfl, rfl⟩
      · by_cases d : j = i - 1
        · obtain ⟨w1, w2⟩ := g6 j (by omega)
          rw [w1, w2, e34, e35, if_pos ⟨rfl, d⟩, if_pos ⟨rfl, d⟩, d, show i - 1 + 1 = i by omega]
          exact ⟨rfl, rfl⟩
        · obtain ⟨w1, w2⟩ := g7 j (by omega) j1
          rw [w1, w2, x1 1 1 (by simp) (by decide), x1 1 2 (by simp) (by decide)]
          exact ⟨rfl, rfl⟩
theorem r_tr {l k P : Int} {pl nu av : Int → Int} (k10 : k ≤ 10) (l0 : 0 ≤ l) (l1 : l < 160) (P150 : P ≤ 150) (M : ∀ i j, 1 ≤ i → i < j → j ≤ k → pl i < pl j) : ∀ (f : Nat) (m j : Int) (h : zH), PIr h → gt h 12 0 25 = P → (∀ i, 1 ≤ i → i ≤ k → 0 ≤ pl i ∧ pl i < P ∧ gt h 68 0 (pl i) = 17 ∧ gt h 70 0 (pl i) = nu i ∧ gt h 73 0 (pl i) = av i) → (∀ j, 0 ≤ j → j < P → gt h 68 0 j = 17 → ∃ i, 1 ≤ i ∧ i ≤ k ∧ pl i = j) → 0 ≤ j → j ≤ P → 0 ≤ m → m ≤ k → (∀ i, 1 ≤ i → i ≤ k → (pl i < j ↔ i ≤ m)) → P - j < f →
    ∃ h', F_X12_trace_4 f 0 l m j h = some (0, h') ∧ zFx [81, 82] [] h h' ∧ gt h' 81 0 l = k ∧ (∀ x, x ≠ l → gt h' 81 0 x = gt h 81 0 x) ∧ (∀ x, ¬ (20 * l + 2 * m ≤ x ∧ x < 20 * l + 20) → gt h' 82 0 x = gt h 82 0 x) ∧ ∀ i, m ≤ i → i < k → gt h' 82 0 (20 * l + 2 * i) = nu (i + 1) ∧ gt h' 82 0 (20 * l + 2 * i + 1) = av (i + 1)
  | 0, m, j, h, _, _, _, _, _, _, _, _, _, hf => by omega
  | f + 1, m, j, h, a2, h25, H, G, j0, j1, m0, mk, I, hf => by
    show ∃ h', F_X12_trace_4b (F_X12_trace_4 f) 0 l m j h = some (0, h') ∧ _
    unfold F_X12_trace_4b
    rw [if_pos (by decide), h25]
    by_cases c : P ≤ j
    · have mk' : m = k := by
        by_cases z : k ≤ m
        · omega
        · have := (I (m + 1) (by omega) (by omega)).mp (by have := (H (m + 1) (by omega) (by omega)).2.1; omega)
          omega
      rw [if_pos c, pr_41 a2, if_pos (by decide), if_pos ⟨l0, by omega⟩]
      refine ⟨_, rfl, (zFx.rf h).p1 rfl, by simp [gt_pt, mk'], fun x z => by simp [gt_pt, z], fun x _ => by simp [gt_pt], fun i a b => by omega⟩
    · have jb : 0 ≤ j ∧ j < 150 := by omega
      have rj : -1000000 ≤ j + 1 ∧ j + 1 ≤ 1000000 := by omega
      rw [if_neg c, pr_26 a2, if_pos (by decide), if_pos jb, wI_s rj]
      by_cases d : gt h 68 0 j = 17
      · obtain ⟨i, i1, i2, i3⟩ := G j j0 (by omega) d
        have im : i = m + 1 := by
          have q1 : ¬ i ≤ m := fun z => by
            have := (I i i1 i2).mpr z
            omega
          by_cases z : i = m + 1
          · exact z
          · have lt := M (m + 1) i (by omega) (by omega) i2
            have := (I (m + 1) (by omega) (by omega)).mp (by omega)
            omega
        obtain ⟨w1, w2, w3, w4, w5⟩ := H i i1 i2
        rw [i3] at w4 w5
        have r1 : (-1000000 ≤ 20 * l ∧ 20 * l ≤ 1000000) ∧ (-1000000 ≤ 2 * m ∧ 2 * m ≤ 1000000) ∧ (-1000000 ≤ 20 * l + 2 * m ∧ 20 * l + 2 * m ≤ 1000000) ∧ (-1000000 ≤ 20 * l + 2 * m + 1 ∧ 20 * l + 2 * m + 1 ≤ 1000000) ∧ (-1000000 ≤ m + 1 ∧ m + 1 ≤ 1000000) := by omega
        have b1 : 0 ≤ 20 * l + 2 * m ∧ 20 * l + 2 * m < 3600 := by omega
        have b2 : 0 ≤ 20 * l + 2 * m + 1 ∧ 20 * l + 2 * m + 1 < 3600 := by omega
        obtain ⟨X, hX⟩ : ∃ X, X = pt (pt h 82 0 (20 * l + 2 * m) (nu i)) 82 0 (20 * l + 2 * m + 1) (av i) := ⟨_, rfl⟩
        have x1 : zFx [81, 82] [] h X := by rw [hX]; exact ((zFx.rf h).p1 rfl).p1 rfl
        have e82 : ∀ x, gt X 82 0 x = if x = 20 * l + 2 * m + 1 then av i else if x = 20 * l + 2 * m then nu i else gt h 82 0 x := fun x => by
          rw [hX]
          by_cases y : x = 20 * l + 2 * m + 1
          · simp [gt_pt, y]
          · by_cases z : x = 20 * l + 2 * m
            · simp [gt_pt, z]
            · simp [gt_pt, y, z]
        have e81 : ∀ x, gt X 81 0 x = gt h 81 0 x := fun x => by rw [hX]; simp [gt_pt]
        obtain ⟨h', g1, g2, g3, g4, g5, g6⟩ := r_tr k10 l0 l1 P150 M f (m + 1) (j + 1) X (a2.fr x1 rfl) ((x1 12 25 (by simp) (by simp) 0).trans h25) (fun y y1 y2 => by
          rw [x1 68 _ (by simp) (by simp) 0, x1 70 _ (by simp) (by simp) 0, x1 73 _ (by simp) (by simp) 0]; exact H y y1 y2) (fun y y1 y2 y3 => by rw [x1 68 _ (by simp) (by simp) 0] at y3; exact G y y1 y2 y3) (by omega) (by omega) (by omega) (by omega) (fun y y1 y2 => by
            constructor
            · intro z
              by_cases v : y ≤ m + 1
              · exact v
              · have := M (m + 1) y (by omega) (by omega) y2
                rw [← im, i3] at this
                omega
            · intro z
              by_cases v : y = m + 1
              · rw [v, ← im, i3]; omega
              · have := (I y y1 y2).mpr (by omega)
                omega) (by omega)
        refine ⟨h', ?_, x1.tr g2, g3, fun x z => by rw [g4 x z, e81], fun x z => ?_, fun y y0 y1 => ?_⟩
        · have t31 : gt (pt h 82 0 (20 * l + 2 * m) (nu i)) 12 0 31 = 0 := pr_31 a2
          have t42 : gt (pt h 82 0 (20 * l + 2 * m) (nu i)) 12 0 42 = 0 := pr_42 a2
          have t73 : gt (pt h 82 0 (20 * l + 2 * m) (nu i)) 73 0 j = av i := w5
          rw [if_neg (by simpa using d), pr_28 a2, if_pos (by decide), pr_42 a2, if_pos (by decide), wI_s r1.1, wI_s r1.2.1, wI_s r1.2.2.1, if_pos b1, w4, t31, if_pos (by decide), t42, if_pos (by decide), wI_s r1.2.2.2.1, if_pos b2, t73]
          simp only [zl]
          rw [← hX, wI_s r1.2.2.2.2]; exact g1
        · rw [g5 x (by omega), e82, if_neg (by omega), if_neg (by omega)]
        · by_cases v : y = m
          · rw [v, ← im, g5 _ (by omega), g5 _ (by omega), e82, e82, if_neg (by omega), if_pos rfl, if_pos rfl]
            exact ⟨rfl, rfl⟩
          · exact g6 y (by omega) y1
      · obtain ⟨h', g1, g2, g3, g4, g5, g6⟩ := r_tr k10 l0 l1 P150 M f m (j + 1) h a2 h25 H G (by omega) (by omega) m0 mk (fun y y1 y2 => by
          constructor
          · intro z
            refine (I y y1 y2).mp ?_
            have : pl y ≠ j := fun w => d (by rw [← w]; exact (H y y1 y2).2.2.1)
            omega
          · intro z
            have := (I y y1 y2).mpr z
            omega) (by omega)
        exact ⟨h', by rw [if_pos d]; exact g1, g2, g3, g4, g5, g6⟩
