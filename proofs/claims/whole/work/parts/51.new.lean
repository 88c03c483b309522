/-! a LOAN is made, on both sides -/
theorem c_make {h : zH} {k s p so pa S : Int} {n : Nat} (a1 : PIc h) (a4 : SC h) (hn : gt h 8 0 9 = n) (n160 : n < 160) (h7 : gt h 8 0 7 = S) (s1 : 1 ≤ S) (s90 : S ≤ 90) (sl : 0 ≤ s ∧ s < 8) (kb : 1 ≤ k ∧ k ≤ 10) (pb : pa = -1 ∨ (0 ≤ pa ∧ pa < n)) (lb : gt h 9 S 2 = -1 ∨ (0 ≤ gt h 9 S 2 ∧ gt h 9 S 2 < n)) :
    ∃ h', F_X8_makeLoan 0 k s p so pa h = some (0, h') ∧ zFx [20] [(4, 0), (4, 1), (4, 2), (4, 3), (4, 4), (4, 5), (4, 6), (4, 7), (9, 2), (8, 9)] h h' ∧ gt h' 8 0 9 = (n : Int) + 1 ∧ (∀ i j, gt h' 20 i j = if i = k ∧ j = s then (n : Int) else gt h 20 i j) ∧
      (∀ j, gt h' 4 n j = if j = 0 then p else if j = 1 then so else if j = 2 then 1 else if j = 3 then pa else if j = 4 then -1 else if j = 5 then (if so = 1 then -1 else S) else if j = 6 then (if so = 1 then -1 else gt h 9 S 2) else if j = 7 then -1 else gt h 4 n j) ∧
      (∀ l j : Int, l ≠ n → 0 ≤ l → gt h' 4 l j = if j = 4 ∧ l = pa then (n : Int) else if j = 7 ∧ so ≠ 1 ∧ l = gt h 9 S 2 then (n : Int) else gt h 4 l j) ∧
      (∀ t, gt h' 9 t 2 = if so ≠ 1 ∧ t = S then (n : Int) else gt h 9 t 2) := by
  have nb : 0 ≤ (n : Int) ∧ (n : Int) < 160 := by omega
  have rn : -1000000 ≤ (n : Int) + 1 ∧ (n : Int) + 1 ≤ 1000000 := by omega
  have e42 : gt h 42 0 n = n := a4.2.2.1 n nb.1 nb.2
  have k0 : 0 ≤ k := by omega
  have sb : 0 ≤ S ∧ S < 91 := by omega
  have e41 : gt h 41 0 S = S := (a4.2.1 S sb.1 sb.2).2
  have e13 : gt h 1 k 3 = k := (a4.1 k k0 (by omega)).2
  have pn : pa ≠ n := by omega
  obtain ⟨X0, hX0⟩ : ∃ X0, X0 = pt (pt (pt (pt (pt (pt (pt (pt (pt h 8 0 9 ((n : Int) + 1)) 4 n 0 p) 4 n 1 so) 4 n 2 1) 4 n 3 pa) 4 n 4 (-1)) 4 n 5 (-1)) 4 n 6 (-1)) 4 n 7 (-1) := ⟨_, rfl⟩
  obtain ⟨X1, hX1⟩ : ∃ X1, X1 = if pa = -1 then X0 else pt X0 4 pa 4 n := ⟨_, rfl⟩
  have eb : F_X4_begin n p so pa (pt h 8 0 9 ((n : Int) + 1)) = some (0, X1) := by
    unfold F_X4_begin F_X4_begin_0
    rw [if_pos nb.1, hX1]
    simp only [zl, ← hX0]
    by_cases c : pa = -1
    · rw [if_pos c, if_pos c]
    · rw [if_neg c, if_neg c, if_pos (by omega)]
  have x0 : zFx [20] [(4, 0), (4, 1), (4, 2), (4, 3), (4, 4), (4, 5), (4, 6), (4, 7), (9, 2), (8, 9)] h X0 := by
    rw [hX0]; exact (((((((((zFx.rf h).p2 rfl).p2 rfl).p2 rfl).p2 rfl).p2 rfl).p2 rfl).p2 rfl).p2 rfl).p2 rfl
  have x1 : zFx [20] [(4, 0), (4, 1), (4, 2), (4, 3), (4, 4), (4, 5), (4, 6), (4, 7), (9, 2), (8, 9)] h X1 := by
    rw [hX1]; split
    · exact x0
    · exact x0.p2 rfl
  have v0 : ∀ j, gt X0 4 n j = if j = 0 then p else if j = 1 then so else if j = 2 then 1 else if j = 3 then pa else if j = 4 then -1 else if j = 5 then -1 else if j = 6 then -1 else if j = 7 then -1 else gt h 4 n j := fun j => by
    rw [hX0]
    by_cases c7 : j = 7
    · subst c7; simp [gt_pt]
    · by_cases c6 : j = 6
      · subst c6; simp [gt_pt]
      · by_cases c5 : j = 5
        · subst c5; simp [gt_pt]
        · by_cases c4 : j = 4
          · subst c4; simp [gt_pt]
          · by_cases c3 : j = 3
            · subst c3; simp [gt_pt]
            · by_cases c2 : j = 2
              · subst c2; simp [gt_pt]
              · by_cases c1 : j = 1
                · subst c1; simp [gt_pt]
                · by_cases c0 : j = 0
                  · subst c0; simp [gt_pt]
                  · simp [gt_pt, c0, c1, c2, c3, c4, c5, c6, c7]
  have w0 : ∀ l j : Int, l ≠ n → gt X0 4 l j = gt h 4 l j := fun l j z => by rw [hX0]; simp [gt_pt, z]
  have q0 : gt X0 8 0 9 = (n : Int) + 1 ∧ (∀ t, gt X0 9 t 2 = gt h 9 t 2) ∧ ∀ i j, gt X0 20 i j = gt h 20 i j := by rw [hX0]; exact ⟨rfl, fun _ => rfl, fun _ _ => rfl⟩
  have v1 : ∀ j, gt X1 4 n j = gt X0 4 n j := fun j => by
    rw [hX1]; split
    · rfl
    · simp [gt_pt, show ¬ (n : Int) = pa by omega]
  have w1 : ∀ l j : Int, l ≠ n → 0 ≤ l → gt X1 4 l j = if j = 4 ∧ l = pa then (n : Int) else gt h 4 l j := fun l j z l0 => by
    rw [hX1]
    by_cases c : pa = -1
    · rw [if_pos c, if_neg (by omega)]; exact w0 l j z
    · rw [if_neg c]
      by_cases d : j = 4 ∧ l = pa
      · rw [if_pos d, d.1, d.2]; simp [gt_pt]
      · rw [if_neg d, ← w0 l j z, gt_pt, if_neg (by omega)]
  have q1 : gt X1 8 0 9 = (n : Int) + 1 ∧ (∀ t, gt X1 9 t 2 = gt h 9 t 2) ∧ (∀ i j, gt X1 20 i j = gt h 20 i j) := by
    rw [hX1]; split
    · exact q0
    · exact ⟨q0.1, q0.2.1, q0.2.2⟩
  have put : ∀ Z : zH, gt Z 1 k 3 = k → F_X8_makeLoan_65 k s n Z = some (0, pt Z 20 k s n) := fun Z z => by
    unfold F_X8_makeLoan_65 F_X1_put F_X1_put_0
    rw [if_pos k0, s_within, if_pos sl]
    simp only [zb]
    rw [if_neg (by decide), if_pos k0, z, if_pos k0, if_pos sl]
  have ef : F_X8_makeLoan 0 k s p so pa h = if so = 1 then F_X8_makeLoan_65 k s n X1 else zb (F_X4_moveTo n S X1) (fun r11 h11 => F_X8_makeLoan_65 k s n h11) := by
    unfold F_X8_makeLoan F_X8_makeLoan_0
    rw [if_pos (by decide), hn, s_within, if_pos nb]
    simp only [zb]
    rw [if_pos (by decide), pc_8_8 a1, if_pos (by decide), hn, if_pos nb, e42, if_pos nb.1, wI_s rn, eb]
    simp only []
    by_cases c : so = 1
    · rw [if_pos c, if_pos c]
    · rw [if_neg c, if_neg c, x1 8 6 (by simp) (by decide) 0, pc_8_6 a1, if_pos (by decide), x1 8 7 (by simp) (by decide) 0, h7, if_pos sb, x1 41 S (by simp) (by simp) 0, e41]
  rw [ef]
  by_cases c : so = 1
  · rw [if_pos c, put X1 (by rw [x1 1 3 (by simp) (by decide) k]; exact e13)]
    refine ⟨_, rfl, x1.p1 rfl, q1.1, fun i j => ?_, fun j => ?_, fun l j z l0 => ?_, fun t => ?_⟩
    · rw [← q1.2.2 i j]; simp [gt_pt]
    · have e : gt (pt X1 20 k s n) 4 n j = gt X1 4 n j := by simp [gt_pt]
      rw [e, v1, v0]; simp only [if_pos c]
    · have e : gt (pt X1 20 k s n) 4 l j = gt X1 4 l j := by simp [gt_pt]
      rw [e, w1 l j z l0]
      by_cases d : j = 4 ∧ l = pa
      · rw [if_pos d, if_pos d]
      · rw [if_neg d, if_neg d, if_neg (fun y => y.2.1 c)]
    · rw [if_neg (fun y => y.1 c)]; exact q1.2.1 t
  · have g5 : gt X1 4 n 5 = -1 := by rw [v1, v0]; simp
    have g6 : gt X1 4 n 6 = -1 := by rw [v1, v0]; simp
    have g7 : gt X1 4 n 7 = -1 := by rw [v1, v0]; simp
    obtain ⟨Y, y1, y2, y3, y4, y5, y6, y7⟩ := c_lv (h := X1) nb.1 (Or.inl g6) (Or.inl g7) (Or.inl g5)
    have yl : ∀ t, gt Y 9 t 2 = gt h 9 t 2 := fun t => by rw [y7 t, if_neg (fun z => z.2.1 g5)]; exact q1.2.1 t
    obtain ⟨Z0, hZ0⟩ : ∃ Z0, Z0 = pt (pt Y 4 n 5 S) 4 n 6 (gt h 9 S 2) := ⟨_, rfl⟩
    have z9 : gt Z0 9 S 2 = gt h 9 S 2 := by rw [← yl S, hZ0]; simp [gt_pt]
    obtain ⟨Z1, hZ1⟩ : ∃ Z1, Z1 = if gt h 9 S 2 = -1 then Z0 else pt Z0 4 (gt h 9 S 2) 7 n := ⟨_, rfl⟩
    have em : F_X4_moveTo n S X1 = some (0, pt Z1 9 S 2 n) := by
      unfold F_X4_moveTo F_X4_moveTo_0 F_X4_moveTo_32
      rw [if_pos nb.1, y1]
      simp only [zb]
      have t9 : gt (pt Y 4 n 5 S) 9 S 2 = gt h 9 S 2 := by rw [← yl S]; simp [gt_pt]
      rw [if_pos sb.1, t9, ← hZ0, z9, hZ1]
      by_cases d : gt h 9 S 2 = -1
      · rw [if_pos d, if_pos d, if_pos sb.1]
      · rw [if_neg d, if_neg d, if_pos (by omega), if_pos sb.1]
    have xZ0 : zFx [20] [(4, 0), (4, 1), (4, 2), (4, 3), (4, 4), (4, 5), (4, 6), (4, 7), (9, 2), (8, 9)] h Z0 := by rw [hZ0]; exact ((x1.tr (y2.wk rfl rfl)).p2 rfl).p2 rfl
    have xZ1 : zFx [20] [(4, 0), (4, 1), (4, 2), (4, 3), (4, 4), (4, 5), (4, 6), (4, 7), (9, 2), (8, 9)] h Z1 := by
      rw [hZ1]; split
      · exact xZ0
      · exact xZ0.p2 rfl
    have xW : zFx [20] [(4, 0), (4, 1), (4, 2), (4, 3), (4, 4), (4, 5), (4, 6), (4, 7), (9, 2), (8, 9)] h (pt Z1 9 S 2 n) := xZ1.p2 rfl
    have ln : gt h 9 S 2 ≠ n := by omega
    have vY : ∀ l j : Int, gt Y 4 l j = if l = n ∧ (j = 5 ∨ j = 6 ∨ j = 7) then -1 else gt X1 4 l j := fun l j => by
      by_cases j5 : j = 5
      · rw [j5, y4 l]; simp
      · by_cases j6 : j = 6
        · rw [j6, y5 l, g7]; simp
        · by_cases j7 : j = 7
          · rw [j7, y6 l, g6]; simp
          · rw [if_neg (by omega)]
            exact y2 4 j (by simp) (by simp; omega) l
    have vZ0 : ∀ l j : Int, gt Z0 4 l j = if l = n ∧ j = 6 then gt h 9 S 2 else if l = n ∧ j = 5 then S else gt Y 4 l j := fun l j => by
      rw [hZ0]; simp only [gt_pt]; simp only [true_and]
    have vZ1 : ∀ l j : Int, gt Z1 4 l j = if gt h 9 S 2 ≠ -1 ∧ l = gt h 9 S 2 ∧ j = 7 then (n : Int) else gt Z0 4 l j := fun l j => by
      rw [hZ1]
      by_cases d : gt h 9 S 2 = -1
      · rw [if_pos d, if_neg (fun z => z.1 d)]
      · rw [if_neg d, gt_pt]
        by_cases e : l = gt h 9 S 2 ∧ j = 7
        · rw [if_pos ⟨rfl, e⟩, if_pos ⟨d, e⟩]
        · rw [if_neg (fun z => e z.2), if_neg (fun z => e z.2)]
    have vW : ∀ l j : Int, gt (pt (pt Z1 9 S 2 n) 20 k s n) 4 l j = gt Z1 4 l j := fun l j => by simp [gt_pt]
    rw [if_neg c, em]
    simp only [zb]
    rw [put _ (by rw [xW 1 3 (by simp) (by decide) k]; exact e13)]
    refine ⟨_, rfl, xW.p1 rfl, ?_, fun i j => ?_, fun j => ?_, fun l j z l0 => ?_, fun t => ?_⟩
    · have e1 : gt (pt (pt Z1 9 S 2 n) 20 k s n) 8 0 9 = gt Z1 8 0 9 := by simp [gt_pt]
      have e2 : gt Z1 8 0 9 = gt Z0 8 0 9 := by
        rw [hZ1]; split
        · rfl
        · simp [gt_pt]
      have e3 : gt Z0 8 0 9 = gt Y 8 0 9 := by rw [hZ0]; simp [gt_pt]
      rw [e1, e2, e3, y2 8 9 (by simp) (by decide) 0]; exact q1.1
    · have e1 : gt (pt Z1 9 S 2 n) 20 i j = gt h 20 i j := by
        have e2 : gt (pt Z1 9 S 2 n) 20 i j = gt Z1 20 i j := by simp [gt_pt]
        have e3 : gt Z1 20 i j = gt Z0 20 i j := by
          rw [hZ1]; split
          · rfl
          · simp [gt_pt]
        have e4 : gt Z0 20 i j = gt Y 20 i j := by rw [hZ0]; simp [gt_pt]
        rw [e2, e3, e4, y2 20 j (by simp) (by simp) i]; exact q1.2.2 i j
      rw [← e1]; simp [gt_pt]
    · rw [vW, vZ1, if_neg (by omega), vZ0, vY, v1, v0]
      simp only [if_neg c, true_and]
      by_cases c6 : j = 6
      · subst c6; simp
      · by_cases c5 : j = 5
        · subst c5; simp
        · by_cases c7 : j = 7
          · subst c7; simp
          · simp [c5, c6, c7]
    · have inner : gt Z0 4 l j = if j = 4 ∧ l = pa then (n : Int) else gt h 4 l j := by
        rw [vZ0, if_neg (fun y => z y.1), if_neg (fun y => z y.1), vY, if_neg (fun y => z y.1), w1 l j z l0]
      rw [vW, vZ1, inner]
      by_cases e : j = 7 ∧ l = gt h 9 S 2
      · have e1 : gt h 9 S 2 ≠ -1 := by omega
        have e2 : ¬ (j = 4 ∧ l = pa) := by omega
        rw [if_pos ⟨e1, e.2, e.1⟩, if_neg e2, if_pos ⟨e.1, c, e.2⟩]
      · rw [if_neg (fun y => e ⟨y.2.2, y.2.1⟩)]
        by_cases d : j = 4 ∧ l = pa
        · rw [if_pos d, if_pos d]
        · rw [if_neg d, if_neg d, if_neg (fun y => e ⟨y.1, y.2.2⟩)]
    · have e1 : gt (pt (pt Z1 9 S 2 n) 20 k s n) 9 t 2 = if t = S then (n : Int) else gt Z1 9 t 2 := by
        by_cases d : t = S <;> simp [gt_pt, d]
      have e2 : gt Z1 9 t 2 = gt h 9 t 2 := by
        have e3 : gt Z1 9 t 2 = gt Z0 9 t 2 := by
          rw [hZ1]; split
          · rfl
          · simp [gt_pt]
        have e4 : gt Z0 9 t 2 = gt Y 9 t 2 := by rw [hZ0]; simp [gt_pt]
        rw [e3, e4]; exact yl t
      rw [e1, e2]
      by_cases d : t = S
      · rw [if_pos d, if_pos ⟨c, d⟩]
      · rw [if_neg d, if_neg (fun y => d y.2)]
/-- the reference's innermost SCOPE, so many outward -/
theorem r_inner {hr : zH} {sid : Int → Int} (hp : PIr hr) : ∀ (p : Nat) (S i : Int) (f : Nat), p ≤ 150 → SK hr sid p S → 0 ≤ i → i ≤ 1000 → p < f → F_X12_innermost_9 f 0 i ((p : Int) - 1) hr = some (if i < S then sid (S - i) else -1, hr)
  | p, S, i, 0, _, _, _, _, h => by omega
  | 0, S, i, f + 1, p150, Q, i0, i1, hf => by
    have Q : S = 0 := Q
    show F_X12_innermost_9b (F_X12_innermost_9 f) 0 i ((0 : Nat) - 1) hr = _
    unfold F_X12_innermost_9b
    rw [if_pos (by decide), if_neg (by omega)]
  | p + 1, S, i, f + 1, p150, Q, i0, i1, hf => by
    have ep : ((p + 1 : Nat) : Int) - 1 = p := by omega
    have kb : 0 ≤ (p : Int) ∧ (p : Int) < 150 := by omega
    have rp : -1000000 ≤ (p : Int) + (-1) ∧ (p : Int) + (-1) ≤ 1000000 := by omega
    have ri : -1000000 ≤ i + (-1) ∧ i + (-1) ≤ 1000000 := by omega
    have ep1 : (p : Int) + (-1) = (p : Int) - 1 := by omega
    have hf' : p < f := by omega
    have p150' : p ≤ 150 := by omega
    rw [ep]
    show F_X12_innermost_9b (F_X12_innermost_9 f) 0 i p hr = _
    unfold F_X12_innermost_9b
    rw [if_neg (by omega), if_pos (by decide), pr_26 hp, if_pos (by decide), if_pos kb]
    rcases Q with ⟨q1, q2, q3, q4⟩ | ⟨q1, q2⟩
    · rw [if_neg (by simpa using q1)]
      by_cases c : i = 0
      · rw [if_neg (by simpa using c), pr_28 hp, if_pos (by decide), q2, if_pos (by omega), c, Int.sub_zero]
      · have c1 : 0 ≤ i + (-1) := by omega
        have c2 : i + (-1) ≤ 1000 := by omega
        have c3 : (i + (-1) < S - 1) ↔ (i < S) := by omega
        have c4 : S - 1 - (i + (-1)) = S - i := by omega
        rw [if_pos c, wI_s rp, wI_s ri, ep1, r_inner hp p (S - 1) (i + (-1)) f p150' q4 c1 c2 hf', c4]
        by_cases d : i < S
        · rw [if_pos d, if_pos (c3.mpr d)]
        · rw [if_neg d, if_neg (fun z => d (c3.mp z))]
    · rw [if_pos q1, wI_s rp, ep1]
      exact r_inner hp p S i f p150' q2 i0 i1 hf'
theorem m_inner {hr : zH} {sid : Int → Int} {p : Nat} {S i : Int} (hp : PIr hr) (Q : SK hr sid p S) (p150 : p ≤ 150) (e25 : gt hr 12 0 25 = p) (i0 : 0 ≤ i) (i1 : i ≤ 1000) : F_X12_innermost 0 i hr = some (if i < S then sid (S - i) else -1, hr) := by
  have hz := zF_i
  have rp : -1000000 ≤ (p : Int) - 1 ∧ (p : Int) - 1 ≤ 1000000 := by omega
  unfold F_X12_innermost F_X12_innermost_0
  rw [if_pos (by decide), e25, wI_s rp]
  exact r_inner hp p S i zF p150 Q i0 i1 (by omega)
theorem r_make {hr : zH} {sid : Int → Int} {p : Nat} {S q so oo od : Int} {n : Nat} (hp : PIr hr) (Q : SK hr sid p S) (p150 : p ≤ 150) (e25 : gt hr 12 0 25 = p) (s1 : 1 ≤ S) (hn : gt hr 12 0 34 = n) (hm : gt hr 12 0 56 = n) (n160 : n < 160) (ho : gt hr 12 0 43 = od) (o0 : 0 ≤ od ∧ od ≤ 1000) (q0 : 0 ≤ q ∧ q < 60) :
    ∃ Z, F_X12_newLoan 0 q so oo hr = some ((n : Int), if so = 2 then Z else pt Z 52 0 q 1) ∧ zFx [75, 76, 77, 78, 79, 80] [(12, 34), (12, 43), (12, 56)] hr Z ∧ FrN hr Z ∧ gt Z 12 0 34 = (n : Int) + 1 ∧ gt Z 12 0 56 = (n : Int) + 1 ∧ gt Z 12 0 43 = od + 1 ∧
      (∀ k, gt Z 75 0 k = if k = n then q else gt hr 75 0 k) ∧ (∀ k, gt Z 76 0 k = if k = n then so else gt hr 76 0 k) ∧ (∀ k, gt Z 77 0 k = if k = n then oo else gt hr 77 0 k) ∧ (∀ k, gt Z 78 0 k = if k = n then sid S else gt hr 78 0 k) ∧ (∀ k, gt Z 79 0 k = if k = n then od else gt hr 79 0 k) ∧ (∀ k, gt Z 80 0 k = if k = n then 1 else gt hr 80 0 k) := by
  have nb : 0 ≤ (n : Int) ∧ (n : Int) < 180 := by omega
  have rn : -1000000 ≤ (n : Int) + 1 ∧ (n : Int) + 1 ≤ 1000000 := by omega
  have ro : -1000000 ≤ od + 1 ∧ od + 1 ≤ 1000000 := by omega
  obtain ⟨Y, hY⟩ : ∃ Y, Y = pt (pt (pt (pt hr 75 0 n q) 76 0 n so) 77 0 n oo) 80 0 n 1 := ⟨_, rfl⟩
  have yx : zFx [75, 76, 77, 80] [] hr Y := by rw [hY]; exact ((((zFx.rf hr).p1 rfl).p1 rfl).p1 rfl).p1 rfl
  have ei := m_inner (i := 0) (hp.fr yx rfl) (Q.cg fun j _ _ => ⟨yx 68 j (by simp) (by simp) 0, yx 70 j (by simp) (by simp) 0⟩) p150 ((yx 12 25 (by simp) (by simp) 0).trans e25) (Int.le_refl 0) (by decide)
  rw [if_pos (by omega), Int.sub_zero] at ei
  obtain ⟨Z, hZ⟩ : ∃ Z, Z = pt (pt (pt (pt (pt Y 78 0 n (sid S)) 79 0 n od) 12 0 43 (od + 1)) 12 0 34 ((n : Int) + 1)) 12 0 56 ((n : Int) + 1) := ⟨_, rfl⟩
  have y12 : ∀ j, gt Y 12 0 j = gt hr 12 0 j := fun j => yx 12 j (by simp) (by simp) 0
  have e : F_X12_newLoan 0 q so oo hr = some ((n : Int), if so = 2 then Z else pt Z 52 0 q 1) := by
    unfold F_X12_newLoan F_X12_newLoan_0
    simp only [zl]
    rw [if_pos (by decide), pr_35 hp, if_pos (by decide), hn, if_pos nb]
    have t36 : gt (pt hr 75 0 n q) 12 0 36 = 0 := by rw [show gt (pt hr 75 0 n q) 12 0 36 = gt hr 12 0 36 from rfl]; exact pr_36 hp
    have t37 : gt (pt (pt hr 75 0 n q) 76 0 n so) 12 0 37 = 0 := by rw [show gt (pt (pt hr 75 0 n q) 76 0 n so) 12 0 37 = gt hr 12 0 37 from rfl]; exact pr_37 hp
    have t40 : gt (pt (pt (pt hr 75 0 n q) 76 0 n so) 77 0 n oo) 12 0 40 = 0 := by rw [show gt (pt (pt (pt hr 75 0 n q) 76 0 n so) 77 0 n oo) 12 0 40 = gt hr 12 0 40 from rfl]; exact pr_40 hp
    rw [t36, if_pos (by decide), t37, if_pos (by decide), t40, if_pos (by decide), ← hY, ei]
    simp only [zb]
    have t38 : gt Y 12 0 38 = 0 := (y12 38).trans (pr_38 hp)
    have t39 : gt (pt Y 78 0 n (sid S)) 12 0 39 = 0 := (y12 39).trans (pr_39 hp)
    have t43 : gt (pt Y 78 0 n (sid S)) 12 0 43 = od := (y12 43).trans ho
    have t43' : gt (pt (pt Y 78 0 n (sid S)) 79 0 n od) 12 0 43 = od := (y12 43).trans ho
    have t34 : gt (pt (pt (pt Y 78 0 n (sid S)) 79 0 n od) 12 0 43 (od + 1)) 12 0 34 = n := (y12 34).trans hn
    have t56 : gt (pt (pt (pt (pt Y 78 0 n (sid S)) 79 0 n od) 12 0 43 (od + 1)) 12 0 34 ((n : Int) + 1)) 12 0 56 = n := (y12 56).trans hm
    rw [t38, if_pos (by decide), t39, if_pos (by decide), t43, t43', wI_s ro, t34, wI_s rn, t56, wI_s rn, ← hZ]
    have t3 : gt Z 12 0 3 = 0 := by rw [hZ]; exact (y12 3).trans (pr_3 hp)
    by_cases c : so = 2
    · rw [if_pos c, if_pos c]
    · rw [if_neg c, if_neg c, t3, if_pos (by decide), if_pos q0]
  have zx : zFx [75, 76, 77, 78, 79, 80] [(12, 34), (12, 43), (12, 56)] hr Z := by rw [hZ]; exact ((((((yx.wk rfl rfl : zFx [75, 76, 77, 78, 79, 80] [(12, 34), (12, 43), (12, 56)] hr Y).p1 rfl).p1 rfl).p2 rfl).p2 rfl).p2 rfl)
  have zn : FrN hr Z := by rw [hZ, hY]; exact frpN (frpN (frpN (frpN (frpN (frpN (frpN (frpN (frpN (frrN hr)))))))))
  refine ⟨Z, e, zx, zn, by rw [hZ]; rfl, by rw [hZ]; rfl, by rw [hZ]; rfl, fun k => ?_, fun k => ?_, fun k => ?_, fun k => ?_, fun k => ?_, fun k => ?_⟩
  · rw [hZ, hY]; by_cases z : k = n <;> simp [gt_pt, z]
  · rw [hZ, hY]; by_cases z : k = n <;> simp [gt_pt, z]
  · rw [hZ, hY]; by_cases z : k = n <;> simp [gt_pt, z]
  · rw [hZ, hY]; by_cases z : k = n <;> simp [gt_pt, z]
  · rw [hZ, hY]; by_cases z : k = n <;> simp [gt_pt, z]
  · rw [hZ, hY]; by_cases z : k = n <;> simp [gt_pt, z]
theorem LN.nw {n : Nat} {S p so pa od : Int} {sid : Int → Int} {hc hr hc' hr' : zH} (K : LN n S (-1) sid hc hr) (s1 : 1 ≤ S) (so3 : so = 0 ∨ so = 1 ∨ so = 2) (p0 : 0 ≤ p) (p1 : p < gt hr 12 0 0) (e0 : gt hr' 12 0 0 = gt hr 12 0 0)
    (pa2 : so = 2 → 0 ≤ pa ∧ pa < n ∧ gt hr 80 0 pa = 1 ∧ gt hc 4 pa 4 = -1 ∧ gt hr 75 0 pa = p) (pa1 : so ≠ 2 → pa = -1)
    (C1 : ∀ j, gt hc' 4 n j = if j = 0 then p else if j = 1 then so else if j = 2 then 1 else if j = 3 then pa else if j = 4 then -1 else if j = 5 then (if so = 1 then -1 else S) else if j = 6 then (if so = 1 then -1 else gt hc 9 S 2) else if j = 7 then -1 else gt hc 4 n j)
    (C2 : ∀ l j : Int, l ≠ n → 0 ≤ l → gt hc' 4 l j = if j = 4 ∧ l = pa then (n : Int) else if j = 7 ∧ so ≠ 1 ∧ l = gt hc 9 S 2 then (n : Int) else gt hc 4 l j)
    (C3 : ∀ t, gt hc' 9 t 2 = if so ≠ 1 ∧ t = S then (n : Int) else gt hc 9 t 2)
    (ho : gt hr 12 0 43 = od) (ho' : gt hr' 12 0 43 = od + 1)
    (R5 : ∀ k, gt hr' 75 0 k = if k = n then p else gt hr 75 0 k) (R6 : ∀ k, gt hr' 76 0 k = if k = n then so else gt hr 76 0 k) (R7 : ∀ k, gt hr' 77 0 k = if k = n then pa else gt hr 77 0 k) (R8 : ∀ k, gt hr' 78 0 k = if k = n then sid S else gt hr 78 0 k) (R9 : ∀ k, gt hr' 79 0 k = if k = n then od else gt hr 79 0 k) (R0 : ∀ k, gt hr' 80 0 k = if k = n then 1 else gt hr 80 0 k) : LN (n + 1) S (-1) sid hc' hr' := by
  obtain ⟨k1, k2⟩ := K
  have c0 : gt hc' 4 n 0 = p := (C1 0).trans (by simp)
  have c1 : gt hc' 4 n 1 = so := (C1 1).trans (by simp)
  have c2 : gt hc' 4 n 2 = 1 := (C1 2).trans (by simp)
  have c3 : gt hc' 4 n 3 = pa := (C1 3).trans (by simp)
  have c4 : gt hc' 4 n 4 = -1 := (C1 4).trans (by simp)
  have c5 : gt hc' 4 n 5 = if so = 1 then -1 else S := (C1 5).trans (by simp)
  have c6 : gt hc' 4 n 6 = if so = 1 then -1 else gt hc 9 S 2 := (C1 6).trans (by simp)
  have c7 : gt hc' 4 n 7 = -1 := (C1 7).trans (by simp)
  have d : ∀ l j : Int, l ≠ n → 0 ≤ l → j ≠ 4 → j ≠ 7 → gt hc' 4 l j = gt hc 4 l j := fun l j a b c e => by rw [C2 l j a b, if_neg (fun z => c z.1), if_neg (fun z => e z.1)]
  have d4 : ∀ l : Int, l ≠ n → 0 ≤ l → gt hc' 4 l 4 = if l = pa then (n : Int) else gt hc 4 l 4 := fun l a b => by
    rw [C2 l 4 a b]
    by_cases z : l = pa
    · rw [if_pos ⟨rfl, z⟩, if_pos z]
    · rw [if_neg (fun y => z y.2), if_neg z, if_neg (fun y => absurd y.1 (by decide))]
  have d7 : ∀ l : Int, l ≠ n → 0 ≤ l → gt hc' 4 l 7 = if so ≠ 1 ∧ l = gt hc 9 S 2 then (n : Int) else gt hc 4 l 7 := fun l a b => by
    rw [C2 l 7 a b, if_neg (fun y => absurd y.1 (by decide))]
    by_cases z : so ≠ 1 ∧ l = gt hc 9 S 2
    · rw [if_pos ⟨rfl, z⟩, if_pos z]
    · rw [if_neg (fun y => z y.2), if_neg z]
  have pan : pa < n := by
    by_cases z : so = 2
    · exact (pa2 z).2.1
    · rw [pa1 z]; omega
  have paq : so = 2 ∨ pa = -1 := by
    by_cases z : so = 2
    · exact Or.inl z
    · exact Or.inr (pa1 z)
  have nn' : ∀ k : Int, k < n → k ≠ n := fun k a => by omega
  refine ⟨fun l l0 l1 => ?_, ?_⟩
  · by_cases ln : l = n
    · rw [ln]
      refine ⟨?_, ?_, ?_⟩
      · unfold LA
        rw [c0, c1, c3, R5 n, R6 n, R7 n, if_pos rfl, if_pos rfl, if_pos rfl, e0]
        refine ⟨rfl, rfl, rfl, p0, p1, so3, fun z => ?_, pa1⟩
        obtain ⟨q1, q2, q3, q4, q5⟩ := pa2 z
        exact ⟨q1, q2, by rw [R5 pa, if_neg (nn' pa q2)]; exact q5⟩
      · unfold LB
        rw [c2, c4, R0 n, if_pos rfl]
        refine ⟨rfl, Or.inr rfl, by decide, by omega, fun k k0 k2' => ?_⟩
        rw [R0 k, R7 k]
        by_cases kn : k = n
        · rw [if_pos kn, if_pos kn]
          constructor <;> intro z <;> omega
        · rw [if_neg kn, if_neg kn]
          constructor
          · intro z; omega
          · rintro ⟨z1, z2⟩
            obtain ⟨_, _, _, _, _, _, a7, a8⟩ := (k1 k k0 (by omega)).1
            by_cases y : gt hr 76 0 k = 2
            · have := (a7 y).2.1; omega
            · have := a8 y; omega
      · unfold LC
        rw [c5, c6, c7, R0 n, R6 n, R7 n, R8 n, R9 n, if_pos rfl, if_pos rfl, if_pos rfl, if_pos rfl, if_pos rfl, ho']
        refine ⟨fun _ z _ => ?_, fun _ z => ?_, fun _ z => ?_, by omega⟩
        · obtain ⟨q1, q2, q3, q4, q5⟩ := pa2 z
          rw [R0 pa, if_neg (nn' pa q2)]; exact q3
        · rw [if_pos z, if_pos z]; exact ⟨rfl, rfl, rfl⟩
        · rw [if_neg z]
    · have l2 : l < n := by omega
      obtain ⟨⟨a1, a2, a3, a4, a5, a6, a7, a8⟩, ⟨b1, b2, b3, b4, b5⟩, f1, f2, f3, f4⟩ := k1 l l0 l2
      refine ⟨?_, ?_, ?_⟩
      · unfold LA
        rw [d l 0 ln l0 (by decide) (by decide), d l 1 ln l0 (by decide) (by decide), d l 3 ln l0 (by decide) (by decide), R5 l, R6 l, R7 l, if_neg ln, if_neg ln, if_neg ln, e0]
        refine ⟨a1, a2, a3, a4, a5, a6, fun z => ?_, a8⟩
        obtain ⟨q1, q2, q3⟩ := a7 z
        exact ⟨q1, q2, by rw [R5, if_neg (by omega)]; exact q3⟩
      · unfold LB
        rw [d l 2 ln l0 (by decide) (by decide), d4 l ln l0, R0 l, if_neg ln]
        have r1 : -1 ≤ (if l = pa then (n : Int) else gt hc 4 l 4) ∧ (if l = pa then (n : Int) else gt hc 4 l 4) < ((n + 1 : Nat) : Int) := by split <;> omega
        refine ⟨b1, b2, r1.1, r1.2, fun k k0 k2' => ?_⟩
        rw [R0 k, R7 k]
        by_cases kn : k = n
        · rw [if_pos kn, if_pos kn, kn]
          by_cases z : l = pa
          · rw [if_pos z, z]; simp
          · rw [if_neg z]
            constructor
            · intro w; omega
            · intro w; exact absurd w.2.symm z
        · rw [if_neg kn, if_neg kn]
          have kl : k < n := by omega
          by_cases z : l = pa
          · rw [if_pos z]
            constructor
            · intro w; exact absurd w.symm kn
            · intro w
              have s2 : so = 2 := by
                rcases paq with y | y
                · exact y
                · omega
              have := (b5 k k0 kl).mpr w
              have q := (pa2 s2).2.2.2.1
              rw [← z] at q
              omega
          · rw [if_neg z]; exact b5 k k0 kl
      · unfold LC
        rw [d l 5 ln l0 (by decide) (by decide), d l 6 ln l0 (by decide) (by decide), d7 l ln l0, R0 l, R6 l, R7 l, R8 l, R9 l, if_neg ln, if_neg ln, if_neg ln, if_neg ln, if_neg ln, ho']
        refine ⟨fun z1 z2 z3 => ?_, fun z1 z2 => ?_, f3, by omega⟩
        · have := f1 z1 z2 z3
          have q := (a7 z2).2.1
          rw [R0, if_neg (by omega)]; exact this
        · obtain ⟨y1, y2, y3⟩ := f2 z1 z2
          refine ⟨y1, y2, ?_⟩
          rw [if_neg]
          · exact y3
          · rintro ⟨w1, w2⟩
            rcases k2.2.2 S s1 (Int.le_refl S) with ⟨v, _⟩ | ⟨v, _⟩
            · have v : gt hc 9 S 2 = -1 := v
              omega
            · have v := v.1.2.2.2
              have v : gt hr 76 0 (gt hc 9 S 2) ≠ 1 := v
              rw [← w2] at v
              exact v z2
  · by_cases c : so = 1
    · have e9 : fS hc' = fS hc := by funext t; show gt hc' 9 t 2 = gt hc 9 t 2; rw [C3 t, if_neg (fun z => z.1 c)]
      rw [e9]
      refine k2.lg (by rw [R6, if_pos rfl]; exact c) (fun k k0 k2' => ?_) (fun k k0 kn => ?_)
      · rw [R9, if_pos rfl]
        have := (k1 k k0 k2').2.2.2.2.2
        omega
      · have kn' : k ≠ n := by omega
        rw [R0, R6, R9, if_neg kn', if_neg kn', if_neg kn']
        refine ⟨rfl, rfl, rfl, d k 5 kn' k0 (by decide) (by decide), d k 6 kn' k0 (by decide) (by decide), ?_⟩
        show gt hc' 4 k 7 = gt hc 4 k 7
        rw [d7 k kn' k0, if_neg (fun z => z.1 c)]
    · have A : DL (n + 1) S (gt hr' 80 0) (gt hr' 76 0) (fun k => if k = n then S else fL hc 5 k) (fL hc' 6) (fL hc' 7) (fS hc') (gt hr' 79 0) := by
        refine k2.ad (n' := n + 1) (l := n) (s := S) (v := od) s1 (Int.le_refl S) (Int.natCast_nonneg n) (by omega) (by omega) (fun k _ _ _ => by omega) (fun z => by omega) (fun k k0 kn _ => ?_) R0 (fun k z => by rw [R6, if_neg z]) (by rw [R6, if_pos rfl]; exact c) (fun k => rfl) R9 (fun k k0 => ?_) (fun k k0 => ?_) (fun t _ => ?_)
        · have := (k1 k k0 kn).2.2.2.2.2
          omega
        · show gt hc' 4 k 6 = if k = n then gt hc 9 S 2 else gt hc 4 k 6
          by_cases z : k = n
          · rw [z, if_pos rfl, c6, if_neg c]
          · rw [if_neg z]; exact d k 6 z k0 (by decide) (by decide)
        · show gt hc' 4 k 7 = if k = n then -1 else if k = gt hc 9 S 2 then (n : Int) else gt hc 4 k 7
          by_cases z : k = n
          · rw [z, if_pos rfl, c7]
          · rw [if_neg z, d7 k z k0]
            by_cases y : k = gt hc 9 S 2
            · rw [if_pos ⟨c, y⟩, if_pos y]
            · rw [if_neg (fun w => y w.2), if_neg y]
        · show gt hc' 9 t 2 = if t = S then (n : Int) else gt hc 9 t 2
          rw [C3 t]
          by_cases y : t = S
          · rw [if_pos ⟨c, y⟩, if_pos y]
          · rw [if_neg (fun w => y w.2), if_neg y]
      refine A.cg (fun k k0 kn => ⟨rfl, rfl, rfl, fun _ => ⟨?_, rfl, rfl⟩⟩) (fun _ _ _ => rfl)
      show gt hc' 4 k 5 = if k = n then S else gt hc 4 k 5
      by_cases z : k = n
      · rw [z, if_pos rfl, c5, if_neg c]
      · rw [if_neg z]; exact d k 5 z k0 (by decide) (by decide)
