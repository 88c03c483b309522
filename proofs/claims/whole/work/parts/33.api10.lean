abbrev zMk (op : Int) : Prop := op = 14 ∨ op = 15 ∨ op = 16
/-- a LINE more -/
theorem JSc.step {h X : zH} {i : Int} {k : Nat} (K : JSc h i) (h4 : gt h 10 i 4 = k) (x4 : gt X 10 i 4 = (k : Int) + 1) (eo : ∀ j : Int, 0 ≤ j → j < k → gt X 43 i j = gt h 43 i j ∧ gt X 44 i j = gt h 44 i j ∧ gt X 45 i j = gt h 45 i j)
    {J : zJ} (eJ : jst (gt X 43 i) (gt X 44 i) (gt X 45 i) (k + 1) = J) (x5 : gt X 10 i 5 = J.1) (x6 : J.1 ≠ 0 → gt X 10 i 6 = J.2.1) (x9 : gt X 10 i 9 = (J.2.2.length : Int)) (sb : SBk X i J.2.2)
    (nx : ∀ j : Int, 0 ≤ j → j < k → (¬ (J.1 = 0 ∧ zMk (gt X 43 i k) ∧ ∃ e t, js (gt X 43 i) (gt X 44 i) (gt X 45 i) k = e :: t ∧ e.2 = j)) → gt X 46 i j = gt h 46 i j)
    (nx2 : J.1 = 0 → zMk (gt X 43 i k) → ∀ e t, js (gt X 43 i) (gt X 44 i) (gt X 45 i) k = e :: t → gt X 46 i e.2 = k) : JSc X i := by
  obtain ⟨k1, k2, k3, k4, k5⟩ := K
  have t4 : (gt X 10 i 4).toNat = k + 1 := by rw [x4]; omega
  have t0 : (gt h 10 i 4).toNat = k := by rw [h4]; omega
  rw [t0] at k5
  unfold JSc jf jl js
  rw [t4, eJ]
  refine ⟨x5, fun z => x6 (by rw [← x5]; exact z), x9, sb, fun q hq hf ho e t he => ?_⟩
  by_cases c : q = k
  · subst c
    have hf' : (jst (gt X 43 i) (gt X 44 i) (gt X 45 i) (q + 1)).1 = 0 := hf
    rw [eJ] at hf'
    exact nx2 hf' ho e t he
  · have hqk : q < k := by omega
    have un := jst_un (gt X 43 i) (gt X 44 i) (gt X 45 i) k q hqk hf ho e t he
    have ein := (jst_in (gt X 43 i) (gt X 44 i) (gt X 45 i) q).1 e (by rw [he]; exact List.mem_cons_self ..)
    have g1 : jst (gt X 43 i) (gt X 44 i) (gt X 45 i) q = jst (gt h 43 i) (gt h 44 i) (gt h 45 i) q := jst_cg q fun j a b => eo j a (by omega)
    have g2 : jst (gt X 43 i) (gt X 44 i) (gt X 45 i) (q + 1) = jst (gt h 43 i) (gt h 44 i) (gt h 45 i) (q + 1) := jst_cg (q + 1) fun j a b => eo j a (by omega)
    rw [nx e.2 (by omega) (by omega)]
    · refine k5 q hqk ?_ ?_ e t ?_
      · show (jst (gt h 43 i) (gt h 44 i) (gt h 45 i) (q + 1)).1 = 0
        rw [← g2]; exact hf
      · rw [← (eo q (Int.natCast_nonneg q) (by omega)).1]; exact ho
      · show (jst (gt h 43 i) (gt h 44 i) (gt h 45 i) q).2.2 = e :: t
        rw [← g1]; exact he
    · rintro ⟨_, _, e', t', w1, w2⟩
      exact un e' (by rw [w1]; exact List.mem_cons_self ..) w2
theorem jbad_mk {ops as bs : Int → Int} {k : Int} {s : zK} (b : jbad ops as bs k s = 0) (c : zMk (ops k)) : ∃ e t, s = e :: t := by
  cases s with
  | cons e t => exact ⟨e, t, rfl⟩
  | nil =>
    unfold jbad at b
    by_cases w : jwr (ops k) (as k) (bs k)
    · rw [if_pos w] at b; cases b
    · rw [if_neg w] at b
      by_cases o : ops k = 16
      · rw [if_pos o, if_pos rfl] at b; cases b
      · have o' : ops k = 14 ∨ ops k = 15 := by
          rcases c with z | z | z
          · exact Or.inl z
          · exact Or.inr z
          · exact absurd z o
        rw [if_neg o, if_pos o'] at b; cases b
/-- where a LINE's beginning or end is put -/
theorem s_place {h : zH} {i k op : Int} {s : zK} (J : JH h i k s) (e1 : gt h 43 i k = op) (b : jbad (gt h 43 i) (gt h 44 i) (gt h 45 i) k s = 0) :
    ∃ X, F_X10_place i op k h = some (0, X) ∧ zFx [46, 47, 48] [(10, 9)] h X ∧ FrN h X ∧ (∀ c i', i' ≠ i → gt X c i' = gt h c i') ∧ gt X 10 i 9 = ((jnx (gt h 43 i) k s).length : Int) ∧ SBk X i (jnx (gt h 43 i) k s) ∧
      (∀ j : Int, ¬ (zMk op ∧ ∃ e t, s = e :: t ∧ e.2 = j) → gt X 46 i j = gt h 46 i j) ∧ (zMk op → ∀ e t, s = e :: t → gt X 46 i e.2 = k) := by
  obtain ⟨j0, j1, j2, j3, j4, j5, j6, j7, j8, j9, j10, j11, j12, j13⟩ := J
  unfold F_X10_place F_X10_place_0
  by_cases o11 : op = 11 ∨ op = 12 ∨ op = 13
  · have l := jbad_lt b (by rw [e1]; exact o11)
    have q1 : (if op = 11 then F_X10_place_18 i k h else if op = 12 then F_X10_place_18 i k h else if op ≠ 13 then (if op = 14 then F_X10_place_81 i op k h else if op = 15 then F_X10_place_81 i op k h else if op ≠ 16 then some (0, h) else F_X10_place_81 i op k h) else F_X10_place_18 i k h) = F_X10_place_18 i k h := by
      rcases o11 with z | z | z <;> simp [z]
    have ej : jnx (gt h 43 i) k s = (k, k) :: s := by unfold jnx; rw [e1, if_neg (by omega), if_neg (by omega), if_pos o11]
    rw [q1, ej]
    have l8 : (s.length : Int) < 8 := by omega
    have l0 : 0 ≤ (s.length : Int) := by omega
    refine ⟨pt (pt (pt h 47 i s.length k) 48 i s.length k) 10 i 9 (s.length + 1), ?_, (((zFx.rf h).p1 rfl).p1 rfl).p2 rfl, frpN (frpN (frpN (frrN h))), fun c i' z => ?_, ?_, ⟨?_, ?_, ?_⟩, fun j _ => rfl, fun z => by omega⟩
    · unfold F_X10_place_18
      simp only [s_within, zb, zl]
      have ew : wI ((s.length : Int) + 1) = s.length + 1 := wI_eq ⟨by omega, by omega⟩
      simp [j0, j10, j5, j6, l8, l0, gt_pt, ew]
    · funext j; simp [gt_pt, z]
    · simp [gt_pt]
    · simp [gt_pt]
    · simp [gt_pt]
    · refine j12.ci fun j q1 q2 => ?_
      have : ¬ j = s.length := by omega
      simp [gt_pt, this]
  by_cases om : zMk op
  · obtain ⟨e, t, rfl⟩ := jbad_mk b (by rw [e1]; exact om)
    have q1 : (if op = 11 then F_X10_place_18 i k h else if op = 12 then F_X10_place_18 i k h else if op ≠ 13 then (if op = 14 then F_X10_place_81 i op k h else if op = 15 then F_X10_place_81 i op k h else if op ≠ 16 then some (0, h) else F_X10_place_81 i op k h) else F_X10_place_18 i k h) = F_X10_place_81 i op k h := by
      rcases om with z | z | z <;> simp [z]
    rw [q1]
    have hl : ((e :: t).length : Int) = (t.length : Int) + 1 := by simp
    have l8 : (t.length : Int) < 8 := by
      have : t.length + 1 ≤ 8 := j11
      omega
    have l0 : 0 ≤ (t.length : Int) := by omega
    have ein := j13 e (List.mem_cons_self ..)
    have e0 : 0 ≤ e.2 := by omega
    have e40 : e.2 < 40 := by omega
    obtain ⟨b1, b2, b3⟩ := j12
    have ew : wI ((t.length : Int) + 1 - 1) = t.length := by rw [wI_eq ⟨by omega, by omega⟩]; omega
    have ew2 : wI (t.length : Int) = t.length := wI_eq ⟨by omega, by omega⟩
    have e41 : ¬ 40 ≤ e.2 := by omega
    have n11 : ¬ op = 11 ∧ ¬ op = 12 ∧ ¬ op = 13 := by omega
    have key : ∀ X : zH, gt X 46 = gt (pt h 46 i e.2 k) 46 → (∀ j : Int, ¬ (zMk op ∧ ∃ e' t', e :: t = e' :: t' ∧ e'.2 = j) → gt X 46 i j = gt h 46 i j) ∧ (zMk op → ∀ e' t', e :: t = e' :: t' → gt X 46 i e'.2 = k) := fun X eX => by
      refine ⟨fun j z => ?_, fun _ e' t' z => ?_⟩
      · have : ¬ j = e.2 := fun y => z ⟨om, e, t, rfl, y.symm⟩
        rw [eX]; simp [gt_pt, this]
      · rw [eX, ← (List.cons.inj z).1]; simp [gt_pt]
    by_cases o16 : op = 16
    · have ej : jnx (gt h 43 i) k (e :: t) = t := by unfold jnx; rw [e1, if_pos o16]; rfl
      rw [ej]
      refine ⟨pt (pt (pt h 46 i e.2 k) 48 i t.length k) 10 i 9 t.length, ?_, (((zFx.rf h).p1 rfl).p1 rfl).p2 rfl, frpN (frpN (frpN (frrN h))), fun c i' z => ?_, ?_, b3.ci fun j q1 q2 => ?_, ?_⟩
      · unfold F_X10_place_81 F_X10_linkMark F_X10_linkMark_0 F_X10_linkMark_43
        simp only [s_within, zb]
        simp [j0, j10, j4, j6, l8, l0, gt_pt, ew, ew2, b2, e0, e40, e41, o16]
      · funext j; simp [gt_pt, z]
      · simp [gt_pt]
      · have : ¬ j = t.length := Int.ne_of_lt q2
        simp [gt_pt, this]
      · exact key _ rfl
    · have o14 : op = 14 ∨ op = 15 := by omega
      have ej : jnx (gt h 43 i) k (e :: t) = (e.1, k) :: t := by unfold jnx; rw [e1, if_neg o16, if_pos o14]
      rw [ej]
      refine ⟨pt (pt h 46 i e.2 k) 48 i t.length k, ?_, ((zFx.rf h).p1 rfl).p1 rfl, frpN (frpN (frrN h)), fun c i' z => ?_, ?_, ⟨?_, ?_, b3.ci fun j q1 q2 => ?_⟩, ?_⟩
      · unfold F_X10_place_81 F_X10_linkMark F_X10_linkMark_0 F_X10_linkMark_43
        simp only [s_within, zb]
        simp [j0, j10, j4, j6, l8, l0, gt_pt, ew, ew2, b2, e0, e40, e41, o16]
      · funext j; simp [gt_pt, z]
      · simp [gt_pt, j10]
      · rw [← b1]; rfl
      · simp [gt_pt]
      · have : ¬ j = t.length := Int.ne_of_lt q2
        simp [gt_pt, this]
      · exact key _ rfl
  · have q1 : (if op = 11 then F_X10_place_18 i k h else if op = 12 then F_X10_place_18 i k h else if op ≠ 13 then (if op = 14 then F_X10_place_81 i op k h else if op = 15 then F_X10_place_81 i op k h else if op ≠ 16 then some (0, h) else F_X10_place_81 i op k h) else F_X10_place_18 i k h) = some (0, h) := by
      rw [if_neg (by omega), if_neg (by omega), if_pos (by omega), if_neg (by omega), if_neg (by omega), if_pos (by omega)]
    have ej : jnx (gt h 43 i) k s = s := by unfold jnx; rw [e1, if_neg (by omega), if_neg (by omega), if_neg o11]
    rw [q1, ej]
    exact ⟨h, rfl, zFx.rf h, frrN h, fun _ _ _ => rfl, j10, j12, fun _ _ => rfl, fun z => absurd z om⟩
theorem s_add {h : zH} {i op a b : Int} {k : Nat} (T : ST h) (K : JSc h i) (j0 : 0 ≤ i) (jf' : gt h 10 i 0 = i ∧ gt h 10 i 1 = i ∧ gt h 10 i 2 = i ∧ gt h 10 i 3 = i ∧ gt h 10 i 7 = i ∧ gt h 10 i 8 = i) (h4 : gt h 10 i 4 = k) (hk : k < 40) :
    ∃ X, F_X10_add i op a b h = some ((k : Int) + 1, X) ∧ zFx [43, 44, 45, 46, 47, 48] [(10, 4), (10, 5), (10, 6), (10, 9)] h X ∧ FrN h X ∧ (∀ c i', i' ≠ i → gt X c i' = gt h c i') ∧ gt X 10 i 4 = (k : Int) + 1 ∧
      (∀ j : Int, gt X 43 i j = (if j = k then op else gt h 43 i j) ∧ gt X 44 i j = (if j = k then a else gt h 44 i j) ∧ gt X 45 i j = (if j = k then b else gt h 45 i j)) ∧ JSc X i := by
  have kw40 : (k : Int) + 1 ≤ 40 := by omega
  have kw : 0 ≤ (k : Int) ∧ (k : Int) < 40 := ⟨Int.natCast_nonneg k, by omega⟩
  have e1 : wI ((k : Int) + 1) = k + 1 := wI_eq ⟨by omega, by omega⟩
  have e2 : wI ((k : Int) + 1 - 1) = k := by rw [wI_eq ⟨by omega, by omega⟩]; omega
  have e3 : wI (k : Int) = k := wI_eq ⟨by omega, by omega⟩
  have K' := K
  obtain ⟨k1, k2, k3, k4, k5⟩ := K'
  obtain ⟨f0, f1, f2, f3, f7, f8⟩ := jf'
  have t0 : (gt h 10 i 4).toNat = k := by rw [h4]; omega
  rw [t0] at k1 k2 k3 k4
  clear k5
  obtain ⟨Y, hY⟩ : ∃ Y, Y = pt (pt (pt (pt (pt h 43 i k op) 44 i k a) 45 i k b) 46 i k (-1)) 10 i 4 ((k : Int) + 1) := ⟨_, rfl⟩
  have yv : gt Y 10 i 4 = (k : Int) + 1 ∧ gt Y 10 i 5 = gt h 10 i 5 ∧ gt Y 10 i 6 = gt h 10 i 6 ∧ gt Y 10 i 9 = gt h 10 i 9 ∧ gt Y 10 i 0 = i ∧ gt Y 10 i 1 = i ∧ gt Y 10 i 2 = i ∧ gt Y 10 i 3 = i ∧ gt Y 10 i 7 = i ∧ gt Y 10 i 8 = i := by
    rw [hY]; simp [gt_pt, f0, f1, f2, f3, f7, f8]
  have y3 : ∀ j : Int, gt Y 43 i j = (if j = k then op else gt h 43 i j) ∧ gt Y 44 i j = (if j = k then a else gt h 44 i j) ∧ gt Y 45 i j = (if j = k then b else gt h 45 i j) ∧ gt Y 46 i j = (if j = k then -1 else gt h 46 i j) := fun j => by
    rw [hY]
    by_cases z : j = k <;> simp [gt_pt, z]
  have yx : zFx [43, 44, 45, 46, 47, 48] [(10, 4), (10, 5), (10, 6), (10, 9)] h Y := by rw [hY]; exact (((((zFx.rf h).p1 rfl).p1 rfl).p1 rfl).p1 rfl).p2 rfl
  have yn : FrN h Y := by rw [hY]; exact frpN (frpN (frpN (frpN (frpN (frrN h)))))
  have yi : ∀ c i', i' ≠ i → gt Y c i' = gt h c i' := fun c i' z => by rw [hY]; funext j; simp [gt_pt, z]
  have y47 : gt Y 47 = gt h 47 ∧ gt Y 48 = gt h 48 ∧ gt Y 100 = gt h 100 ∧ gt Y 101 = gt h 101 ∧ gt Y 102 = gt h 102 := by rw [hY]; exact ⟨rfl, rfl, rfl, rfl, rfl⟩
  have TY : ST Y := by unfold ST; rw [y47.2.2.1, y47.2.2.2.1, y47.2.2.2.2]; exact T
  have g1 : jst (gt Y 43 i) (gt Y 44 i) (gt Y 45 i) k = jst (gt h 43 i) (gt h 44 i) (gt h 45 i) k := jst_cg k fun j q1 q2 => by
    have := y3 j
    rw [if_neg (Int.ne_of_lt q2), if_neg (Int.ne_of_lt q2), if_neg (Int.ne_of_lt q2)] at this
    exact ⟨this.1, this.2.1, this.2.2.1⟩
  have yo : ∀ j : Int, 0 ≤ j → j < k → gt Y 43 i j = gt h 43 i j ∧ gt Y 44 i j = gt h 44 i j ∧ gt Y 45 i j = gt h 45 i j := fun j q1 q2 => by
    have := y3 j
    rw [if_neg (Int.ne_of_lt q2), if_neg (Int.ne_of_lt q2), if_neg (Int.ne_of_lt q2)] at this
    exact ⟨this.1, this.2.1, this.2.2.1⟩
  have y46 : ∀ j : Int, 0 ≤ j → j < k → gt Y 46 i j = gt h 46 i j := fun j q1 q2 => by
    have := (y3 j).2.2.2
    rw [if_neg (Int.ne_of_lt q2)] at this
    exact this
  have sk : SBk Y i (js (gt h 43 i) (gt h 44 i) (gt h 45 i) k) := k4.cg y47.1 y47.2.1
  have prog : F_X10_add i op a b h = if gt h 10 i 5 ≠ 0 then some ((k : Int) + 1, Y) else zb (F_X10_faultOf i op a b Y) (fun r15 h15 => if gt (pt (pt h15 10 i 5 r15) 10 i 6 (wI ((gt (pt h15 10 i 5 r15) 10 i 4) - 1))) 10 i 5 ≠ 0 then (some (gt (pt (pt h15 10 i 5 r15) 10 i 6 (wI ((gt (pt h15 10 i 5 r15) 10 i 4) - 1))) 10 i 4, (pt (pt h15 10 i 5 r15) 10 i 6 (wI ((gt (pt h15 10 i 5 r15) 10 i 4) - 1))))) else (zb (F_X10_place i op (wI ((gt (pt (pt h15 10 i 5 r15) 10 i 6 (wI ((gt (pt h15 10 i 5 r15) 10 i 4) - 1))) 10 i 4) - 1)) (pt (pt h15 10 i 5 r15) 10 i 6 (wI ((gt (pt h15 10 i 5 r15) 10 i 4) - 1)))) (fun r17 h17 => some (gt h17 10 i 4, h17)))) := by
    rw [hY]
    unfold F_X10_add F_X10_add_0
    simp only [s_within, zb, zl]
    simp [j0, h4, kw, hk, f0, f1, f2, f3, gt_pt, e1]
  rw [prog]
  by_cases c : gt h 10 i 5 = 0
  · rw [if_neg (by simpa using c)]
    rw [k1] at c
    generalize hs : js (gt h 43 i) (gt h 44 i) (gt h 45 i) k = s at *
    have JY : JH Y i k s := ⟨j0, yv.2.2.2.2.1, yv.2.2.2.2.2.1, yv.2.2.2.2.2.2.1, yv.2.2.2.2.2.2.2.1, yv.2.2.2.2.2.2.2.2.1, yv.2.2.2.2.2.2.2.2.2, yv.1, kw.1, kw40, by rw [yv.2.2.2.1, k3], by rw [← hs]; exact jst_len _ _ _ _, sk, by rw [← hs]; exact (jst_in _ _ _ _).1⟩
    have hs' : js (gt Y 43 i) (gt Y 44 i) (gt Y 45 i) k = s := by rw [← hs]; show (jst (gt Y 43 i) (gt Y 44 i) (gt Y 45 i) k).2.2 = _; rw [g1]
    have hc' : jf (gt Y 43 i) (gt Y 44 i) (gt Y 45 i) k = 0 := by show (jst (gt Y 43 i) (gt Y 44 i) (gt Y 45 i) k).1 = 0; rw [g1]; exact c
    have yk := y3 k
    rw [if_pos rfl, if_pos rfl, if_pos rfl] at yk
    rw [s_faultOf (op := op) (a := a) (b := b) TY JY yk.1 yk.2.1 yk.2.2.1]
    simp only [zb]
    obtain ⟨r, hr⟩ : ∃ r, r = jbad (gt Y 43 i) (gt Y 44 i) (gt Y 45 i) k s := ⟨_, rfl⟩
    rw [← hr]
    obtain ⟨Z, hZ⟩ : ∃ Z, Z = pt (pt Y 10 i 5 r) 10 i 6 k := ⟨_, rfl⟩
    have z4 : gt (pt Y 10 i 5 r) 10 i 4 = (k : Int) + 1 := by simp [gt_pt, yv.1]
    rw [z4, e2, ← hZ]
    have zv : gt Z 10 i 4 = (k : Int) + 1 ∧ gt Z 10 i 5 = r ∧ gt Z 10 i 6 = k ∧ gt Z 10 i 9 = (s.length : Int) ∧ gt Z 10 i 0 = i ∧ gt Z 10 i 1 = i ∧ gt Z 10 i 2 = i ∧ gt Z 10 i 3 = i ∧ gt Z 10 i 7 = i ∧ gt Z 10 i 8 = i := by
      rw [hZ]; simp [gt_pt, yv, k3]
    have zx : zFx [43, 44, 45, 46, 47, 48] [(10, 4), (10, 5), (10, 6), (10, 9)] h Z := by rw [hZ]; exact (yx.p2 rfl).p2 rfl
    have zn : FrN h Z := by rw [hZ]; exact frpN (frpN yn)
    have zi : ∀ c i', i' ≠ i → gt Z c i' = gt h c i' := fun c i' z => by rw [← yi c i' z, hZ]; funext j; simp [gt_pt, z]
    have zk : gt Z 43 = gt Y 43 ∧ gt Z 44 = gt Y 44 ∧ gt Z 45 = gt Y 45 ∧ gt Z 46 = gt Y 46 ∧ gt Z 47 = gt Y 47 ∧ gt Z 48 = gt Y 48 := by rw [hZ]; exact ⟨rfl, rfl, rfl, rfl, rfl, rfl⟩
    clear hZ hY prog
    rw [zv.2.1]
    by_cases hb : r = 0
    · rw [if_neg (by simpa using hb), zv.1, e2]
      have JZ : JH Z i k s := by
        obtain ⟨q0, q1, q2, q3, q4, q5, q6, q7, q8, q9, q10, q11, q12, q13⟩ := JY
        exact ⟨q0, zv.2.2.2.2.1, zv.2.2.2.2.2.1, zv.2.2.2.2.2.2.1, zv.2.2.2.2.2.2.2.1, zv.2.2.2.2.2.2.2.2.1, zv.2.2.2.2.2.2.2.2.2, zv.1, q8, q9, zv.2.2.2.1, q11, q12.cg zk.2.2.2.2.1 zk.2.2.2.2.2, q13⟩
      have hj : jst (gt Y 43 i) (gt Y 44 i) (gt Y 45 i) (k + 1) = (0, (0, jnx (gt Y 43 i) k s)) := by rw [jst_g hc' (by rw [hs', ← hr]; exact hb), hs']
      obtain ⟨X, u1, u2, u3, u4, u5, u6, u7, u8⟩ := s_place (op := op) JZ (by rw [zk.1]; exact yk.1) (by rw [zk.1, zk.2.1, zk.2.2.1, ← hr]; exact hb)
      rw [u1]
      have x4 : gt X 10 i 4 = (k : Int) + 1 := (u2 10 4 (by decide) (by decide) i).trans zv.1
      have x43 : gt X 43 = gt Y 43 ∧ gt X 44 = gt Y 44 ∧ gt X 45 = gt Y 45 := by
        refine ⟨?_, ?_, ?_⟩
        · rw [← zk.1]; funext i' j; exact u2 43 j (by decide) (by simp) i'
        · rw [← zk.2.1]; funext i' j; exact u2 44 j (by decide) (by simp) i'
        · rw [← zk.2.2.1]; funext i' j; exact u2 45 j (by decide) (by simp) i'
      rw [zk.1] at u5 u6
      rw [zk.2.2.2.1] at u7
      simp only [zb, x4]
      refine ⟨X, rfl, zx.tr (u2.wk rfl rfl), zn.tr u3, fun c i' z => (u4 c i' z).trans (zi c i' z), x4, fun j => ?_, ?_⟩
      · rw [x43.1, x43.2.1, x43.2.2]
        exact ⟨(y3 j).1, (y3 j).2.1, (y3 j).2.2.1⟩
      · refine JSc.step (J := (0, (0, jnx (gt Y 43 i) k s))) K h4 x4 ?_ ?_ ?_ (fun z => absurd rfl z) u5 u6 (fun j q1 q2 q3 => ?_) (fun _ q2 e t q3 => ?_)
        · rw [x43.1, x43.2.1, x43.2.2]; exact yo
        · rw [x43.1, x43.2.1, x43.2.2]; exact hj
        · exact (u2 10 5 (by decide) (by decide) i).trans (zv.2.1.trans hb)
        · rw [x43.1, x43.2.1, x43.2.2, hs', yk.1] at q3
          rw [u7 j fun z => q3 ⟨rfl, z.1, z.2⟩]
          exact y46 j q1 q2
        · rw [x43.1, yk.1] at q2
          rw [x43.1, x43.2.1, x43.2.2, hs'] at q3
          exact u8 q2 e t q3
    · rw [if_pos (by simpa using hb), zv.1]
      have hj : jst (gt Y 43 i) (gt Y 44 i) (gt Y 45 i) (k + 1) = (r, ((k : Int), s)) := by rw [jst_b hc' (by rw [hs', ← hr]; exact hb), hs', ← hr]
      refine ⟨Z, rfl, zx, zn, zi, zv.1, fun j => ?_, ?_⟩
      · rw [zk.1, zk.2.1, zk.2.2.1]
        exact ⟨(y3 j).1, (y3 j).2.1, (y3 j).2.2.1⟩
      · refine JSc.step (J := (r, ((k : Int), s))) K h4 zv.1 ?_ ?_ zv.2.1 (fun _ => zv.2.2.1) zv.2.2.2.1 (sk.cg zk.2.2.2.2.1 zk.2.2.2.2.2) (fun j q1 q2 q3 => ?_) (fun z => absurd z hb)
        · rw [zk.1, zk.2.1, zk.2.2.1]; exact yo
        · rw [zk.1, zk.2.1, zk.2.2.1]; exact hj
        · rw [zk.2.2.2.1]; exact y46 j q1 q2
  · rw [if_pos (by simpa using c)]
    have hj : jst (gt Y 43 i) (gt Y 44 i) (gt Y 45 i) (k + 1) = jst (gt h 43 i) (gt h 44 i) (gt h 45 i) k := by
      rw [jst_f, g1]
      show (jst (gt Y 43 i) (gt Y 44 i) (gt Y 45 i) k).1 ≠ 0
      rw [g1]; rw [k1] at c; exact c
    refine ⟨Y, rfl, yx, yn, yi, yv.1, fun j => ⟨(y3 j).1, (y3 j).2.1, (y3 j).2.2.1⟩, ?_⟩
    have c' : (jst (gt h 43 i) (gt h 44 i) (gt h 45 i) k).1 ≠ 0 := by rw [k1] at c; exact c
    exact JSc.step K h4 yv.1 yo hj (by rw [yv.2.1]; exact k1) (fun _ => by rw [yv.2.2.1]; exact k2 c) (by rw [yv.2.2.2.1]; exact k3) sk (fun j q1 q2 _ => y46 j q1 q2) (fun z => absurd z c')
