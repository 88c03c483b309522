theorem s_isSlot (a : Int) (h : zH) : F_X12_isSlot a h = some (if 0 ≤ a ∧ a ≤ 7 then 1 else 0, h) := by
  unfold F_X12_isSlot F_X12_isSlot_0
  simp only [s_in, zb]
  by_cases c : 0 ≤ a ∧ a ≤ 7 <;> simp [c]
theorem s_isWrong (op a b : Int) (h : zH) : F_X12_isWrong op a b h = some (if jwr op a b then 1 else 0, h) := by
  unfold F_X12_isWrong F_X12_isWrong_0
  simp only [s_in, s_isSlot, zb]
  by_cases hr : 0 ≤ op ∧ op < 17
  · rcases (show op = 0 ∨ op = 1 ∨ op = 2 ∨ op = 3 ∨ op = 4 ∨ op = 5 ∨ op = 6 ∨ op = 7 ∨ op = 8 ∨ op = 9 ∨ op = 10 ∨ op = 11 ∨ op = 12 ∨ op = 13 ∨ op = 14 ∨ op = 15 ∨ op = 16 by omega) with rfl | rfl | rfl | rfl | rfl | rfl | rfl | rfl | rfl | rfl | rfl | rfl | rfl | rfl | rfl | rfl | rfl
    all_goals simp [jwr, jft, zA100, zA101]
    all_goals (repeat' split) <;> first | rfl | omega | skip
  · have q : jwr op a b := fun z => hr ⟨z.1, z.2.1⟩
    rw [if_pos q]
    have n1 : ¬ (op = 0 ∨ op = 2) := by omega
    have n2 : ¬ op = 1 := by omega
    have n3 : ¬ (op = 3 ∨ op = 4) := by omega
    have n4 : ¬ op = 5 := by omega
    have n5 : ¬ op = 6 := by omega
    have n6 : ¬ op = 7 := by omega
    have n7 : ¬ (op = 8 ∨ op = 14) := by omega
    have n8 : ¬ (op = 9 ∨ op = 10 ∨ op = 12 ∨ op = 13) := by omega
    have n9 : ¬ op = 11 := by omega
    have n10 : ¬ (0 ≤ op ∧ op ≤ 16) := by omega
    rw [if_neg n1, if_neg n2, if_neg n3, if_neg n4, if_neg n5, if_neg n6, if_neg n7, if_neg n8, if_neg n9, if_neg n10]
    rfl
theorem s_fits (a b : Int) (h : zH) : F_X10_fits a b h = some (if jft a b then 1 else 0, h) := by
  unfold F_X10_fits F_X10_fits_0
  by_cases c1 : b = -1
  · rw [if_pos c1, if_pos (Or.inl c1)]
  · by_cases c2 : a < 0
    · rw [if_neg c1, if_pos c2, if_neg (by unfold jft; omega)]
    · by_cases c3 : b < a
      · rw [if_neg c1, if_neg c2, if_pos c3, if_neg (by unfold jft; omega)]
      · rw [if_neg c1, if_neg c2, if_neg c3, if_pos (by unfold jft; omega)]
/-- a SCRIPT at k LINES, the newest of them written already but not judged -/
def JH (h : zH) (i k : Int) (s : zK) : Prop := 0 ≤ i ∧ gt h 10 i 0 = i ∧ gt h 10 i 1 = i ∧ gt h 10 i 2 = i ∧ gt h 10 i 3 = i ∧ gt h 10 i 7 = i ∧ gt h 10 i 8 = i ∧ gt h 10 i 4 = k + 1 ∧ 0 ≤ k ∧ k + 1 ≤ 40 ∧ gt h 10 i 9 = s.length ∧ s.length ≤ 8 ∧ SBk h i s ∧ Jin k s
theorem s_opAt {h : zH} {i j : Int} (h0 : 0 ≤ i) (h1 : gt h 10 i 0 = i) (h4 : gt h 10 i 4 ≤ 40) : F_X10_opAt i j h = some (if 0 ≤ j ∧ j < gt h 10 i 4 then gt h 43 i j else -1, h) := by
  unfold F_X10_opAt F_X10_opAt_0
  simp only [s_within, zb]
  by_cases c : 0 ≤ j ∧ j < gt h 10 i 4
  · have : j < 40 := by omega
    simp [h0, h1, c, this]
  · simp [h0, c]
theorem s_takesWays {h : zH} {i k : Int} {s : zK} (J : JH h i k s) : F_X10_takesWays i h = some (match s with | [] => 0 | e :: _ => if gt h 43 i e.1 = 13 ∧ gt h 43 i e.2 ≠ 15 then 1 else 0, h) := by
  obtain ⟨j0, j1, j2, j3, j4, j5, j6, j7, j8, j9, j10, j11, j12, j13⟩ := J
  unfold F_X10_takesWays F_X10_takesWays_0
  simp only [s_within, s_opAt j0 j1 (by omega), zb]
  cases s with
  | nil =>
    have e : wI (gt h 10 i 9 - 1) = -1 := by rw [j10]; decide
    simp [j0, e]
  | cons x t =>
    have hl : gt h 10 i 9 = (t.length : Int) + 1 := by rw [j10]; simp
    have hl2 : (t.length : Int) + 1 ≤ 8 := by simp at j11; omega
    have e : wI (gt h 10 i 9 - 1) = t.length := by rw [hl, wI_eq ⟨by omega, by omega⟩]; omega
    have q := j13 x (List.mem_cons_self ..)
    obtain ⟨b1, b2, b3⟩ := j12
    have c1 : (t.length : Int) < 8 := by omega
    have c2 : x.1 < k + 1 := by omega
    have c3 : x.2 < k + 1 := by omega
    have c4 : 0 ≤ x.2 := by omega
    simp only [e, j5, j6, b1, b2, j7]
    by_cases d1 : gt h 43 i x.1 = 13
    · by_cases d2 : gt h 43 i x.2 = 15
      · simp [j0, c1, c2, c3, c4, q.1, d1, d2]
      · simp [j0, c1, c2, c3, c4, q.1, d1, d2]
    · simp [j0, c1, c2, c3, c4, q.1, d1]
theorem s_isInLoop {h : zH} {i k : Int} {s : zK} (J : JH h i k s) : ∀ (n : Nat) (j : Int), 0 ≤ j → j ≤ s.length → (s.length : Int) - j < n → (∀ e ∈ s, ∀ j' : Int, 0 ≤ j' → j' < j → gt h 47 i j' = e.1 → gt h 43 i e.1 ≠ 11) →
    F_X10_isInLoop_2 n i j h = some (if ∃ e ∈ s, gt h 43 i e.1 = 11 then 1 else 0, h)
  | 0, j, h0, h1, hn, _ => by omega
  | n + 1, j, h0, h1, hn, hv => by
    have J' := J
    obtain ⟨j0, j1, j2, j3, j4, j5, j6, j7, j8, j9, j10, j11, j12, j13⟩ := J
    show F_X10_isInLoop_2b (F_X10_isInLoop_2 n) i j h = _
    unfold F_X10_isInLoop_2b
    rw [if_pos j0, j10, s_opAt j0 j1 (by omega), j5]
    by_cases c : (s.length : Int) ≤ j
    · rw [if_pos c, if_neg]
      rintro ⟨e, m, z⟩
      obtain ⟨j', u1, u2, u3, u4⟩ := j12.of e m
      exact hv e m j' u1 (by omega) u3 z
    · obtain ⟨e, m, u1, u2⟩ := j12.at j h0 (by omega)
      have q := j13 e m
      rw [if_neg c, if_pos j0, if_pos ⟨h0, by omega⟩, u1, if_pos ⟨q.1, by omega⟩]
      simp only [zb]
      by_cases d : gt h 43 i e.1 = 11
      · rw [if_neg (by simpa using d), if_pos ⟨e, m, d⟩]
      · rw [if_pos d, wI_eq ⟨by omega, by omega⟩]
        refine s_isInLoop J' n (j + 1) (by omega) (by omega) (by omega) fun e' m' j' v1 v2 v3 => ?_
        by_cases w : j' = j
        · rw [w, u1] at v3; rw [← v3]; exact d
        · exact hv e' m' j' v1 (by omega) v3
theorem s_faultOf {h : zH} {i k op a b : Int} {s : zK} (T : ST h) (J : JH h i k s) (e1 : gt h 43 i k = op) (e2 : gt h 44 i k = a) (e3 : gt h 45 i k = b) : F_X10_faultOf i op a b h = some (jbad (gt h 43 i) (gt h 44 i) (gt h 45 i) k s, h) := by
  have J' := J
  obtain ⟨j0, j1, j2, j3, j4, j5, j6, j7, j8, j9, j10, j11, j12, j13⟩ := J
  obtain ⟨t1, t2, t3, t4, t5⟩ := T
  have il : F_X10_isInLoop i h = some (if ∃ e ∈ s, gt h 43 i e.1 = 11 then 1 else 0, h) := s_isInLoop J' zF 0 (Int.le_refl 0) (Int.natCast_nonneg _) (by have := zF_i; omega) fun e m j' v1 v2 => by omega
  unfold F_X10_faultOf F_X10_faultOf_0 jbad
  rw [e1, e2, e3]
  simp only [s_within, s_fits, s_takesWays J', il, zb, j10, t1, t2]
  by_cases c : 0 ≤ op ∧ op < 17
  · have u := t4 op c.1 c.2
    by_cases w1 : jft a (zA100.getD op.toNat 0)
    · by_cases w2 : jft b (zA101.getD op.toNat 0)
      · have w : ¬ jwr op a b := fun z => z ⟨c.1, c.2, w1, w2⟩
        rw [if_neg w, u.1, u.2, if_pos w1, if_pos w2, if_pos c]
        simp only [if_pos c]
        rw [if_neg (by decide), if_neg (by decide), if_pos (by decide)]
        by_cases o16 : op = 16
        · simp only [o16]
          cases s with
          | nil => simp [j0]
          | cons x t =>
            have : ¬ ((t.length : Int) + 1 ≤ 0) := by omega
            simp [j0, this]
        by_cases o14 : op = 14 ∨ op = 15
        · have n1 : ¬ op = 10 := by omega
          have n2 : ¬ (op = 11 ∨ op = 12 ∨ op = 13) := by omega
          simp only [if_neg o16, if_pos o14, if_neg n1, if_neg n2, if_pos j0]
          cases s with
          | nil => rfl
          | cons x t =>
            by_cases d : gt h 43 i x.1 = 13 ∧ gt h 43 i x.2 ≠ 15
            · simp only [if_pos d]; rfl
            · simp only [if_neg d]; rfl
        by_cases o11 : op = 11 ∨ op = 12 ∨ op = 13
        · have n1 : ¬ op = 10 := by omega
          simp only [if_neg o16, if_neg o14, if_pos o11, if_neg n1, if_pos j0]
          by_cases l : s.length < 8
          · rw [if_neg (by omega), if_pos l]
          · rw [if_pos (by omega), if_neg l]
        by_cases o10 : op = 10
        · simp only [if_neg o16, if_neg o14, if_neg o11, if_pos o10, if_pos j0]
          by_cases l : ∃ e ∈ s, gt h 43 i e.1 = 11
          · simp only [if_pos l]; rfl
          · simp only [if_neg l]; rfl
        · simp only [if_neg o16, if_neg o14, if_neg o11, if_neg o10]
      · have w : jwr op a b := fun z => w2 z.2.2.2
        rw [if_pos w, u.1, u.2, if_pos w1, if_neg w2, if_pos c]
        simp [c]
    · have w : jwr op a b := fun z => w1 z.2.2.1
      rw [if_pos w, u.1, if_neg w1, if_pos c]
      simp [c]
  · have w : jwr op a b := fun z => c ⟨z.1, z.2.1⟩
    rw [if_pos w, if_neg c]
    rfl
