/-! LOANS on both sides -/
abbrev fL (h : zH) (j : Int) : Int → Int := fun l => gt h 4 l j
abbrev fS (h : zH) : Int → Int := fun s => gt h 9 s 2
theorem c_lv {h : zH} {l : Int} (l0 : 0 ≤ l) (bx : gt h 4 l 6 = -1 ∨ (0 ≤ gt h 4 l 6 ∧ gt h 4 l 6 ≠ l)) (bY : gt h 4 l 7 = -1 ∨ (0 ≤ gt h 4 l 7 ∧ gt h 4 l 7 ≠ l)) (bz : gt h 4 l 5 = -1 ∨ 0 ≤ gt h 4 l 5) :
    ∃ h', F_X4_leaveScope l h = some (0, h') ∧ zFx [] [(4, 5), (4, 6), (4, 7), (9, 2)] h h' ∧ FrN h h' ∧ (∀ k, gt h' 4 k 5 = if k = l then -1 else gt h 4 k 5) ∧ (∀ k, gt h' 4 k 6 = if k = l then -1 else if k = gt h 4 l 7 ∧ gt h 4 l 7 ≠ -1 then gt h 4 l 6 else gt h 4 k 6) ∧
      (∀ k, gt h' 4 k 7 = if k = l then -1 else if k = gt h 4 l 6 ∧ gt h 4 l 6 ≠ -1 then gt h 4 l 7 else gt h 4 k 7) ∧ (∀ s, gt h' 9 s 2 = if gt h 4 l 7 = -1 ∧ gt h 4 l 5 ≠ -1 ∧ s = gt h 4 l 5 then gt h 4 l 6 else gt h 9 s 2) := by
  obtain ⟨x, hx⟩ : ∃ x, x = gt h 4 l 6 := ⟨_, rfl⟩
  obtain ⟨y, hy⟩ : ∃ x, x = gt h 4 l 7 := ⟨_, rfl⟩
  obtain ⟨z, hz⟩ : ∃ x, x = gt h 4 l 5 := ⟨_, rfl⟩
  rw [← hx] at bx ⊢
  rw [← hy] at bY ⊢
  rw [← hz] at bz ⊢
  have key : ∀ X2 : zH, F_X4_leaveScope l h = some (0, pt (pt (pt X2 4 l 5 (-1)) 4 l 6 (-1)) 4 l 7 (-1)) → zFx [] [(4, 5), (4, 6), (4, 7), (9, 2)] h X2 → FrN h X2 → (∀ k, gt X2 4 k 5 = gt h 4 k 5) → (∀ k, gt X2 4 k 6 = if k = y ∧ y ≠ -1 then x else gt h 4 k 6) → (∀ k, gt X2 4 k 7 = if k = x ∧ x ≠ -1 then y else gt h 4 k 7) → (∀ s, gt X2 9 s 2 = if y = -1 ∧ z ≠ -1 ∧ s = z then x else gt h 9 s 2) →
      ∃ h', F_X4_leaveScope l h = some (0, h') ∧ zFx [] [(4, 5), (4, 6), (4, 7), (9, 2)] h h' ∧ FrN h h' ∧ (∀ k, gt h' 4 k 5 = if k = l then -1 else gt h 4 k 5) ∧ (∀ k, gt h' 4 k 6 = if k = l then -1 else if k = y ∧ y ≠ -1 then x else gt h 4 k 6) ∧
      (∀ k, gt h' 4 k 7 = if k = l then -1 else if k = x ∧ x ≠ -1 then y else gt h 4 k 7) ∧ (∀ s, gt h' 9 s 2 = if y = -1 ∧ z ≠ -1 ∧ s = z then x else gt h 9 s 2) := fun X2 e1 e2 e3 q5 q6 q7 q9 => by
    refine ⟨_, e1, ((e2.p2 rfl).p2 rfl).p2 rfl, frpN (frpN (frpN e3)), fun k => ?_, fun k => ?_, fun k => ?_, fun s => ?_⟩
    · rw [← q5 k]; by_cases c : k = l <;> simp [gt_pt, c]
    · rw [← q6 k]; by_cases c : k = l <;> simp [gt_pt, c]
    · rw [← q7 k]; by_cases c : k = l <;> simp [gt_pt, c]
    · rw [← q9 s]; simp [gt_pt]
  unfold F_X4_leaveScope F_X4_leaveScope_0 F_X4_leaveScope_18 F_X4_leaveScope_57 at key ⊢
  by_cases cx : x = -1
  · by_cases cy : y = -1
    · by_cases cz : z = -1
      · refine key h ?_ (zFx.rf h) (frrN h) (fun k => rfl) (fun k => ?_) (fun k => ?_) (fun s => ?_)
        · simp [l0, ← hx, ← hy, ← hz, cx, cy, cz]
        · simp [cy]
        · simp [cx]
        · simp [cz]
      · have z0 : 0 ≤ z := by omega
        refine key (pt h 9 z 2 x) ?_ ((zFx.rf h).p2 rfl) (frpN (frrN h)) (fun k => ?_) (fun k => ?_) (fun k => ?_) (fun s => ?_)
        · simp [l0, ← hx, ← hy, ← hz, cx, cy, cz, z0]
        · simp [gt_pt]
        · simp [gt_pt, cy]
        · simp [gt_pt, cx]
        · by_cases c : s = z <;> simp [gt_pt, cz, cy, c]
    · have y0 : 0 ≤ y := by omega
      refine key (pt h 4 y 6 x) ?_ ((zFx.rf h).p2 rfl) (frpN (frrN h)) (fun k => ?_) (fun k => ?_) (fun k => ?_) (fun s => ?_)
      · simp [l0, ← hx, ← hy, cx, cy, y0]
      · simp [gt_pt]
      · by_cases c : k = y <;> simp [gt_pt, cy, c]
      · simp [gt_pt, cx]
      · simp [gt_pt, cy]
  · have x0 : 0 ≤ x := by omega
    have xl : ¬ l = x := by omega
    by_cases cy : y = -1
    · by_cases cz : z = -1
      · refine key (pt h 4 x 7 y) ?_ ((zFx.rf h).p2 rfl) (frpN (frrN h)) (fun k => ?_) (fun k => ?_) (fun k => ?_) (fun s => ?_)
        · simp [l0, ← hx, ← hy, ← hz, cx, cy, cz, x0, gt_pt, xl]
        · simp [gt_pt]
        · simp [gt_pt, cy]
        · by_cases c : k = x <;> simp [gt_pt, cx, c]
        · simp [gt_pt, cz]
      · have z0 : 0 ≤ z := by omega
        refine key (pt (pt h 4 x 7 y) 9 z 2 x) ?_ (((zFx.rf h).p2 rfl).p2 rfl) (frpN (frpN (frrN h))) (fun k => ?_) (fun k => ?_) (fun k => ?_) (fun s => ?_)
        · simp [l0, ← hx, ← hy, ← hz, cx, cy, cz, z0, x0, gt_pt, xl]
        · simp [gt_pt]
        · simp [gt_pt, cy]
        · by_cases c : k = x <;> simp [gt_pt, cx, c]
        · by_cases c : s = z <;> simp [gt_pt, cz, cy, c]
    · have y0 : 0 ≤ y := by omega
      refine key (pt (pt h 4 x 7 y) 4 y 6 x) ?_ (((zFx.rf h).p2 rfl).p2 rfl) (frpN (frpN (frrN h))) (fun k => ?_) (fun k => ?_) (fun k => ?_) (fun s => ?_)
      · simp [l0, ← hx, ← hy, cx, cy, x0, y0, gt_pt, xl]
      · simp [gt_pt]
      · by_cases c : k = y <;> simp [gt_pt, cy, c]
      · by_cases c : k = x <;> simp [gt_pt, cx, c]
      · simp [gt_pt, cy]
theorem c_cl {h : zH} {l : Int} (l0 : 0 ≤ l) (bx : gt h 4 l 6 = -1 ∨ (0 ≤ gt h 4 l 6 ∧ gt h 4 l 6 ≠ l)) (bY : gt h 4 l 7 = -1 ∨ (0 ≤ gt h 4 l 7 ∧ gt h 4 l 7 ≠ l)) (bz : gt h 4 l 5 = -1 ∨ 0 ≤ gt h 4 l 5) (bp : -1 ≤ gt h 4 l 3) :
    ∃ h', F_X4_close l h = some (0, h') ∧ zFx [] [(4, 2), (4, 4), (4, 5), (4, 6), (4, 7), (9, 2)] h h' ∧ FrN h h' ∧ (∀ k, gt h' 4 k 2 = if k = l then 0 else gt h 4 k 2) ∧ (∀ k, 0 ≤ k → gt h' 4 k 4 = if k = gt h 4 l 3 then -1 else gt h 4 k 4) ∧ (∀ k, gt h' 4 k 5 = if k = l then -1 else gt h 4 k 5) ∧ (∀ k, gt h' 4 k 6 = if k = l then -1 else if k = gt h 4 l 7 ∧ gt h 4 l 7 ≠ -1 then gt h 4 l 6 else gt h 4 k 6) ∧
      (∀ k, gt h' 4 k 7 = if k = l then -1 else if k = gt h 4 l 6 ∧ gt h 4 l 6 ≠ -1 then gt h 4 l 7 else gt h 4 k 7) ∧ (∀ s, gt h' 9 s 2 = if gt h 4 l 7 = -1 ∧ gt h 4 l 5 ≠ -1 ∧ s = gt h 4 l 5 then gt h 4 l 6 else gt h 9 s 2) := by
  have g : ∀ k (j : Int), j ≠ 2 → gt (pt h 4 l 2 0) 4 k j = gt h 4 k j := fun k j c => by simp [gt_pt, c]
  have g9 : ∀ k (j : Int), gt (pt h 4 l 2 0) 9 k j = gt h 9 k j := fun k j => by simp [gt_pt]
  obtain ⟨h1, e1, e2, e3, e4, e5, e6, e7⟩ := c_lv (h := pt h 4 l 2 0) l0 (by rw [g l 6 (by decide)]; exact bx) (by rw [g l 7 (by decide)]; exact bY) (by rw [g l 5 (by decide)]; exact bz)
  simp only [g _ 5 (by decide), g _ 6 (by decide), g _ 7 (by decide), g9] at e4 e5 e6 e7
  have x1 : zFx [] [(4, 2), (4, 4), (4, 5), (4, 6), (4, 7), (9, 2)] h h1 := ((zFx.rf h).p2 rfl).tr (e2.wk rfl rfl)
  have p1 : gt h1 4 l 3 = gt h 4 l 3 := by rw [e2 4 3 (by simp) (by decide) l]; exact g l 3 (by decide)
  have q2 : ∀ k, gt h1 4 k 2 = if k = l then 0 else gt h 4 k 2 := fun k => by
    rw [e2 4 2 (by simp) (by decide) k]
    by_cases c : k = l <;> simp [gt_pt, c]
  have q4 : ∀ k, gt h1 4 k 4 = gt h 4 k 4 := fun k => by
    rw [e2 4 4 (by simp) (by decide) k]; exact g k 4 (by decide)
  have f : F_X4_close l h = if gt h 4 l 3 = -1 then some (0, h1) else if 0 ≤ gt h 4 l 3 then some (0, pt h1 4 (gt h 4 l 3) 4 (-1)) else none := by
    unfold F_X4_close F_X4_close_0
    rw [if_pos l0, e1]
    simp only [zb, p1]
  by_cases c : gt h 4 l 3 = -1
  · rw [if_pos c] at f
    exact ⟨h1, f, x1, (frpN (frrN h)).tr e3, q2, fun k k0 => by rw [q4 k, if_neg (by omega)], e4, e5, e6, e7⟩
  · rw [if_neg c, if_pos (by omega)] at f
    refine ⟨_, f, x1.p2 rfl, frpN ((frpN (frrN h)).tr e3), fun k => ?_, fun k k0 => ?_, fun k => ?_, fun k => ?_, fun k => ?_, fun s => ?_⟩
    · rw [← q2 k]; simp [gt_pt]
    · rw [← q4 k]; by_cases d : k = gt h 4 l 3 <;> simp [gt_pt, d]
    · rw [← e4 k]; simp [gt_pt]
    · rw [← e5 k]; simp [gt_pt]
    · rw [← e6 k]; simp [gt_pt]
    · rw [← e7 s]; simp [gt_pt]
/-- a LOAN's fields that stay -/
def LA (hc hr : zH) (l : Int) : Prop := gt hc 4 l 0 = gt hr 75 0 l ∧ gt hc 4 l 1 = gt hr 76 0 l ∧ gt hc 4 l 3 = gt hr 77 0 l ∧ 0 ≤ gt hr 75 0 l ∧ gt hr 75 0 l < gt hr 12 0 0 ∧ (gt hr 76 0 l = 0 ∨ gt hr 76 0 l = 1 ∨ gt hr 76 0 l = 2) ∧
  (gt hr 76 0 l = 2 → 0 ≤ gt hr 77 0 l ∧ gt hr 77 0 l < l ∧ gt hr 75 0 (gt hr 77 0 l) = gt hr 75 0 l) ∧ (gt hr 76 0 l ≠ 2 → gt hr 77 0 l = -1)
/-- whether it is OPEN, and its SUB-LOAN -/
def LB (n : Nat) (hc hr : zH) (l : Int) : Prop := gt hc 4 l 2 = gt hr 80 0 l ∧ (gt hr 80 0 l = 0 ∨ gt hr 80 0 l = 1) ∧ -1 ≤ gt hc 4 l 4 ∧ gt hc 4 l 4 < n ∧ ∀ k : Int, 0 ≤ k → k < n → (gt hc 4 l 4 = k ↔ (gt hr 80 0 k = 1 ∧ gt hr 77 0 k = l))
/-- what it hangs on -/
def LC (e : Int) (sid : Int → Int) (hc hr : zH) (l : Int) : Prop := (gt hr 80 0 l = 1 → gt hr 76 0 l = 2 → l ≠ e → gt hr 80 0 (gt hr 77 0 l) = 1) ∧ (gt hr 80 0 l = 1 → gt hr 76 0 l = 1 → gt hc 4 l 5 = -1 ∧ gt hc 4 l 6 = -1 ∧ gt hc 4 l 7 = -1) ∧ (gt hr 80 0 l = 1 → gt hr 76 0 l ≠ 1 → gt hr 78 0 l = sid (gt hc 4 l 5)) ∧ gt hr 79 0 l < gt hr 12 0 43
def LN (n : Nat) (S e : Int) (sid : Int → Int) (hc hr : zH) : Prop :=
  (∀ l : Int, 0 ≤ l → l < n → LA hc hr l ∧ LB n hc hr l ∧ LC e sid hc hr l) ∧ DL n S (gt hr 80 0) (gt hr 76 0) (fL hc 5) (fL hc 6) (fL hc 7) (fS hc) (gt hr 79 0)
theorem pv_ne {I : Int → Prop} {o : Int → Int} {l b : Int} (p : zPv I o l b) (pos : ∀ x, I x → 0 ≤ x) : b = -1 ∨ (0 ≤ b ∧ b ≠ l) := by
  rcases p with ⟨a, _⟩ | ⟨a, b, _⟩
  · exact Or.inl a
  · exact Or.inr ⟨pos _ a, fun z => by rw [z] at b; omega⟩
/-- the facts that closing it, or its moving, needs -/
theorem LN.at {n : Nat} {S e l : Int} {sid : Int → Int} {hc hr : zH} (K : LN n S e sid hc hr) (l0 : 0 ≤ l) (l1 : l < n) (op : gt hr 80 0 l = 1) : (gt hc 4 l 6 = -1 ∨ (0 ≤ gt hc 4 l 6 ∧ gt hc 4 l 6 ≠ l)) ∧ (gt hc 4 l 7 = -1 ∨ (0 ≤ gt hc 4 l 7 ∧ gt hc 4 l 7 ≠ l)) ∧ (gt hc 4 l 5 = -1 ∨ 0 ≤ gt hc 4 l 5) ∧ -1 ≤ gt hc 4 l 3 := by
  obtain ⟨k1, k2⟩ := K
  obtain ⟨⟨a1, a2, a3, a4, a5, a6, a7, a8⟩, b, c1, c2, c3, c4⟩ := k1 l l0 l1
  have p3 : -1 ≤ gt hc 4 l 3 := by
    rw [a3]
    by_cases z : gt hr 76 0 l = 2
    · have := (a7 z).1; omega
    · rw [a8 z]; exact Int.le_refl _
  by_cases z : gt hr 76 0 l = 1
  · obtain ⟨y1, y2, y3⟩ := c2 op z
    exact ⟨Or.inl y2, Or.inl y3, Or.inl y1, p3⟩
  · obtain ⟨d1, d2, d3⟩ := k2
    obtain ⟨m1, m2, m3, m4⟩ := d2 l ⟨l0, l1, op, z⟩
    have pos : ∀ x, zIn n (gt hr 80 0) (gt hr 76 0) (fL hc 5) (fL hc 5 l) x → 0 ≤ x := fun x a => a.1.1
    have m1 : 1 ≤ gt hc 4 l 5 := m1
    exact ⟨pv_ne m3 pos, pv_ne m4 pos, Or.inr (by omega), p3⟩
/-- one that is next closes -/
theorem LN.cl {n : Nat} {S l : Int} {sid : Int → Int} {hc hr : zH} (K : LN n S l sid hc hr) (l0 : 0 ≤ l) (l1 : l < n) (op : gt hr 80 0 l = 1) :
    ∃ hc', F_X4_close l hc = some (0, hc') ∧ zFx [] [(4, 2), (4, 4), (4, 5), (4, 6), (4, 7), (9, 2)] hc hc' ∧ FrN hc hc' ∧ LN n S (gt hc 4 l 4) sid hc' (pt hr 80 0 l 0) := by
  obtain ⟨q1, q2, q3, q4⟩ := K.at l0 l1 op
  obtain ⟨hc', e1, e2, e3, e4, e5, e6, e7, e8, e9⟩ := c_cl l0 q1 q2 q3 q4
  obtain ⟨k1, k2⟩ := K
  refine ⟨hc', e1, e2, e3, fun k x y => ?_, ?_⟩
  · obtain ⟨⟨a1, a2, a3, a4, a5, a6, a7, a8⟩, ⟨b1, b2, b3, b4, b5⟩, c1, c2, c3, c4⟩ := k1 k x y
    obtain ⟨⟨l1', l2, l3, l4, l5, l6, l7, l8⟩, ⟨m1, m2, m3, m4, m5⟩, n1, n2, n3, n4⟩ := k1 l l0 l1
    have g80 : ∀ i, gt (pt hr 80 0 l 0) 80 0 i = if i = l then 0 else gt hr 80 0 i := fun i => by by_cases z : i = l <;> simp [gt_pt, z]
    have g : ∀ c i j, c ≠ 80 → gt (pt hr 80 0 l 0) c i j = gt hr c i j := fun c i j z => by simp [gt_pt, z]
    have gc : ∀ i, gt hc' 4 i 0 = gt hc 4 i 0 ∧ gt hc' 4 i 1 = gt hc 4 i 1 ∧ gt hc' 4 i 3 = gt hc 4 i 3 := fun i => ⟨e2 4 0 (by simp) (by decide) i, e2 4 1 (by simp) (by decide) i, e2 4 3 (by simp) (by decide) i⟩
    refine ⟨?_, ?_, ?_⟩
    · unfold LA
      rw [(gc k).1, (gc k).2.1, (gc k).2.2]
      simp only [g _ _ _ (show (75 : Nat) ≠ 80 by decide), g _ _ _ (show (76 : Nat) ≠ 80 by decide), g _ _ _ (show (77 : Nat) ≠ 80 by decide), g _ _ _ (show (12 : Nat) ≠ 80 by decide)]
      exact ⟨a1, a2, a3, a4, a5, a6, a7, a8⟩
    · unfold LB
      rw [e4 k, g80 k, e5 k x, l3]
      have r1 : -1 ≤ (if k = gt hr 77 0 l then -1 else gt hc 4 k 4) ∧ (if k = gt hr 77 0 l then -1 else gt hc 4 k 4) < n := by
        split <;> omega
      refine ⟨by rw [b1], by split <;> omega, r1.1, r1.2, fun i i0 i1 => ?_⟩
      rw [g80 i, g 77 0 i (by decide)]
      by_cases z : k = gt hr 77 0 l
      · rw [if_pos z]
        constructor
        · intro w; omega
        · rintro ⟨w1, w2⟩
          by_cases v : i = l
          · rw [if_pos v] at w1; omega
          · rw [if_neg v] at w1
            have u1 := (b5 i i0 i1).mpr ⟨w1, w2⟩
            have u2 := (b5 l l0 l1).mpr ⟨op, z.symm⟩
            exact absurd (u1.symm.trans u2) v
      · rw [if_neg z]
        by_cases v : i = l
        · rw [if_pos v]
          constructor
          · intro w
            have := (b5 i i0 i1).mp w
            rw [v] at this
            exact absurd this.2.symm z
          · rintro ⟨w1, w2⟩; omega
        · rw [if_neg v]; exact b5 i i0 i1
    · unfold LC
      rw [g80 k, g 76 0 k (by decide), g 77 0 k (by decide), g 78 0 k (by decide), g 79 0 k (by decide), g 12 0 43 (by decide), g80 (gt hr 77 0 k), e6 k, e7 k, e8 k]
      by_cases z : k = l
      · rw [if_pos z]
        exact ⟨fun w => by omega, fun w => by omega, fun w => by omega, c4⟩
      · rw [if_neg z, if_neg z, if_neg z, if_neg z]
        refine ⟨fun w1 w2 w3 => ?_, fun w1 w2 => ?_, c3, c4⟩
        · have u := c1 w1 w2 z
          by_cases v : gt hr 77 0 k = l
          · exact absurd ((m5 k x y).mpr ⟨w1, v⟩).symm w3
          · rw [if_neg v]; exact u
        · obtain ⟨v1, v2, v3⟩ := c2 w1 w2
          have nin : ∀ b : Int, (b = -1 ∨ zIn n (gt hr 80 0) (gt hr 76 0) (fL hc 5) (fL hc 5 l) b) → ¬ (k = b ∧ b ≠ -1) := fun b hb hk => by
            rcases hb with w | w
            · exact hk.2 w
            · rw [← hk.1] at w; exact w.1.2.2.2 w2
          have bb : (gt hc 4 l 6 = -1 ∨ zIn n (gt hr 80 0) (gt hr 76 0) (fL hc 5) (fL hc 5 l) (gt hc 4 l 6)) ∧ (gt hc 4 l 7 = -1 ∨ zIn n (gt hr 80 0) (gt hr 76 0) (fL hc 5) (fL hc 5 l) (gt hc 4 l 7)) := by
            by_cases w : gt hr 76 0 l = 1
            · obtain ⟨y1, y2, y3⟩ := n2 op w
              exact ⟨Or.inl y2, Or.inl y3⟩
            · obtain ⟨p1, p2, p3, p4⟩ := k2.2.1 l ⟨l0, l1, op, w⟩
              refine ⟨?_, ?_⟩
              · rcases p3 with q | q
                · exact Or.inl q.1
                · exact Or.inr q.1
              · rcases p4 with q | q
                · exact Or.inl q.1
                · exact Or.inr q.1
          rw [if_neg (nin _ bb.2), if_neg (nin _ bb.1)]
          exact ⟨v1, v2, v3⟩
  · have g : ∀ c, c ≠ 80 → gt (pt hr 80 0 l 0) c 0 = gt hr c 0 := fun c z => by funext j; simp [gt_pt, z]
    have g80 : ∀ i, gt (pt hr 80 0 l 0) 80 0 i = if i = l then 0 else gt hr 80 0 i := fun i => by by_cases z : i = l <;> simp [gt_pt, z]
    rw [g 76 (by decide), g 79 (by decide)]
    by_cases w : gt hr 76 0 l = 1
    · obtain ⟨y1, y2, y3⟩ := (k1 l l0 l1).2.2.2.1 op w
      have k3 : DL n S (gt (pt hr 80 0 l 0) 80 0) (gt hr 76 0) (fL hc 5) (fL hc 6) (fL hc 7) (fS hc) (gt hr 79 0) := by
        obtain ⟨d1, d2, d3⟩ := k2
        have eJ : ∀ k, zJo n (gt (pt hr 80 0 l 0) 80 0) (gt hr 76 0) k ↔ zJo n (gt hr 80 0) (gt hr 76 0) k := fun k => by
          unfold zJo
          rw [g80]
          by_cases z : k = l
          · rw [if_pos z, z]
            constructor
            · rintro ⟨_, _, u, _⟩; omega
            · rintro ⟨_, _, _, u⟩; exact absurd w u
          · rw [if_neg z]
        have eI : ∀ s, zIn n (gt (pt hr 80 0 l 0) 80 0) (gt hr 76 0) (fL hc 5) s = zIn n (gt hr 80 0) (gt hr 76 0) (fL hc 5) s := fun s => by
          funext x
          apply propext
          unfold zIn
          rw [eJ x]
        refine ⟨d1, fun k Jk => ?_, fun s s1 s2 => ?_⟩
        · rw [eI]; exact d2 k ((eJ k).mp Jk)
        · rw [eI]; exact d3 s s1 s2
      refine k3.cg (fun k x y => ⟨rfl, rfl, rfl, fun Jk => ?_⟩) (fun t _ _ => ?_)
      · have kl : k ≠ l := fun z => by rw [z] at Jk; exact Jk.2.2.2 w
        show gt hc' 4 k 5 = gt hc 4 k 5 ∧ gt hc' 4 k 6 = gt hc 4 k 6 ∧ gt hc' 4 k 7 = gt hc 4 k 7
        rw [e6 k, e7 k, e8 k, if_neg kl, if_neg kl, if_neg kl, if_neg (fun z => z.2 y3), if_neg (fun z => z.2 y2)]
        exact ⟨rfl, rfl, rfl⟩
      · show gt hc' 9 t 2 = gt hc 9 t 2
        rw [e9 t, if_neg (fun z => z.2.1 y1)]
    · have Jl : zJo n (gt hr 80 0) (gt hr 76 0) l := ⟨l0, l1, op, w⟩
      have s1 : 1 ≤ gt hc 4 l 5 := (k2.2.1 l Jl).1
      refine k2.rm (l := l) Jl g80 (fun k z => ?_) (fun k z k0 => ?_) (fun k z k0 => ?_) (fun s s1 => ?_)
      · show gt hc' 4 k 5 = gt hc 4 k 5
        rw [e6 k, if_neg z]
      · show gt hc' 4 k 6 = if k = gt hc 4 l 7 then gt hc 4 l 6 else gt hc 4 k 6
        rw [e7 k, if_neg z]
        by_cases c : k = gt hc 4 l 7
        · rw [if_pos ⟨c, by omega⟩, if_pos c]
        · rw [if_neg (fun z => c z.1), if_neg c]
      · show gt hc' 4 k 7 = if k = gt hc 4 l 6 then gt hc 4 l 7 else gt hc 4 k 7
        rw [e8 k, if_neg z]
        by_cases c : k = gt hc 4 l 6
        · rw [if_pos ⟨c, by omega⟩, if_pos c]
        · rw [if_neg (fun z => c z.1), if_neg c]
      · show gt hc' 9 s 2 = if gt hc 4 l 7 = -1 ∧ s = gt hc 4 l 5 then gt hc 4 l 6 else gt hc 9 s 2
        rw [e9 s]
        by_cases c : gt hc 4 l 7 = -1 ∧ s = gt hc 4 l 5
        · rw [if_pos ⟨c.1, by omega, c.2⟩, if_pos c]
        · rw [if_neg (fun z => c ⟨z.1, z.2.2⟩), if_neg c]
