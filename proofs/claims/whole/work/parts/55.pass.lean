/-! PASS -/
theorem c_mv {h : zH} {l t : Int} (l0 : 0 ≤ l) (t0 : 0 ≤ t) (bx : gt h 4 l 6 = -1 ∨ (0 ≤ gt h 4 l 6 ∧ gt h 4 l 6 ≠ l)) (bY : gt h 4 l 7 = -1 ∨ (0 ≤ gt h 4 l 7 ∧ gt h 4 l 7 ≠ l)) (bz : gt h 4 l 5 = -1 ∨ 0 ≤ gt h 4 l 5)
    (lb : ∀ x, x = (if gt h 4 l 7 = -1 ∧ gt h 4 l 5 ≠ -1 ∧ t = gt h 4 l 5 then gt h 4 l 6 else gt h 9 t 2) → x = -1 ∨ (0 ≤ x ∧ x ≠ l)) :
    ∃ h1 h', zFx [] [(4, 5), (4, 6), (4, 7), (9, 2)] h h1 ∧ (∀ k, gt h1 4 k 5 = if k = l then -1 else gt h 4 k 5) ∧ (∀ k, gt h1 4 k 6 = if k = l then -1 else if k = gt h 4 l 7 ∧ gt h 4 l 7 ≠ -1 then gt h 4 l 6 else gt h 4 k 6) ∧
      (∀ k, gt h1 4 k 7 = if k = l then -1 else if k = gt h 4 l 6 ∧ gt h 4 l 6 ≠ -1 then gt h 4 l 7 else gt h 4 k 7) ∧ (∀ s, gt h1 9 s 2 = if gt h 4 l 7 = -1 ∧ gt h 4 l 5 ≠ -1 ∧ s = gt h 4 l 5 then gt h 4 l 6 else gt h 9 s 2) ∧
      F_X4_moveTo l t h = some (0, h') ∧ zFx [] [(4, 5), (4, 6), (4, 7), (9, 2)] h h' ∧ FrN h h' ∧ (∀ k, gt h' 4 k 5 = if k = l then t else gt h1 4 k 5) ∧ (∀ k, gt h' 4 k 6 = if k = l then gt h1 9 t 2 else gt h1 4 k 6) ∧ (∀ k, 0 ≤ k → gt h' 4 k 7 = if k = l then -1 else if k = gt h1 9 t 2 then l else gt h1 4 k 7) ∧ (∀ s, gt h' 9 s 2 = if s = t then l else gt h1 9 s 2) := by
  obtain ⟨h1, e1, e2, e3, e4, e5, e6, e7⟩ := c_lv l0 bx bY bz
  have lb' := lb _ (e7 t)
  obtain ⟨v, hv⟩ : ∃ v, v = gt h1 9 t 2 := ⟨_, rfl⟩
  rw [← hv] at lb'
  obtain ⟨Z0, hZ0⟩ : ∃ Z0, Z0 = pt (pt h1 4 l 5 t) 4 l 6 v := ⟨_, rfl⟩
  have z9 : ∀ s, gt Z0 9 s 2 = gt h1 9 s 2 := fun s => by rw [hZ0]; simp [gt_pt]
  obtain ⟨Z1, hZ1⟩ : ∃ Z1, Z1 = if v = -1 then Z0 else pt Z0 4 v 7 l := ⟨_, rfl⟩
  have em : F_X4_moveTo l t h = some (0, pt Z1 9 t 2 l) := by
    unfold F_X4_moveTo F_X4_moveTo_0 F_X4_moveTo_32
    rw [if_pos l0, e1]
    simp only [zb]
    have t9 : gt (pt h1 4 l 5 t) 9 t 2 = v := by rw [hv]; simp [gt_pt]
    rw [if_pos t0, t9, ← hZ0, z9, ← hv, hZ1]
    by_cases d : v = -1
    · rw [if_pos d, if_pos d, if_pos t0]
    · rw [if_neg d, if_neg d, if_pos (by omega), if_pos t0]
  have xZ0 : zFx [] [(4, 5), (4, 6), (4, 7), (9, 2)] h Z0 := by rw [hZ0]; exact (e2.p2 rfl).p2 rfl
  have xZ1 : zFx [] [(4, 5), (4, 6), (4, 7), (9, 2)] h Z1 := by
    rw [hZ1]; split
    · exact xZ0
    · exact xZ0.p2 rfl
  have vZ0 : ∀ k j : Int, gt Z0 4 k j = if k = l ∧ j = 6 then v else if k = l ∧ j = 5 then t else gt h1 4 k j := fun k j => by
    rw [hZ0]; simp only [gt_pt]; simp only [true_and]
  have vZ1 : ∀ k j : Int, gt Z1 4 k j = if v ≠ -1 ∧ k = v ∧ j = 7 then l else gt Z0 4 k j := fun k j => by
    rw [hZ1]
    by_cases d : v = -1
    · rw [if_pos d, if_neg (fun z => z.1 d)]
    · rw [if_neg d, gt_pt]
      by_cases e : k = v ∧ j = 7
      · rw [if_pos ⟨rfl, e⟩, if_pos ⟨d, e⟩]
      · rw [if_neg (fun z => e z.2), if_neg (fun z => e z.2)]
  have vW : ∀ k j : Int, gt (pt Z1 9 t 2 l) 4 k j = gt Z1 4 k j := fun k j => by simp [gt_pt]
  refine ⟨h1, _, e2, e4, e5, e6, e7, em, xZ1.p2 rfl, nf_X4_moveTo em, fun k => ?_, fun k => ?_, fun k k0 => ?_, fun s => ?_⟩
  · rw [vW, vZ1, if_neg (fun z => absurd z.2.2 (by decide)), vZ0, if_neg (fun z => absurd z.2 (by decide))]
    by_cases c : k = l <;> simp [c]
  · rw [vW, vZ1, if_neg (fun z => absurd z.2.2 (by decide)), vZ0, ← hv]
    by_cases c : k = l <;> simp [c]
  · have inner : gt Z0 4 k 7 = gt h1 4 k 7 := by rw [vZ0, if_neg (fun z => absurd z.2 (by decide)), if_neg (fun z => absurd z.2 (by decide))]
    rw [vW, vZ1, ← hv, inner]
    by_cases c : k = l
    · have n1 : ¬ (v ≠ -1 ∧ k = v ∧ (7 : Int) = 7) := by omega
      rw [if_pos c, if_neg n1, e6, if_pos c]
    · rw [if_neg c]
      by_cases d : k = v
      · have n1 : v ≠ -1 ∧ k = v ∧ (7 : Int) = 7 := by omega
        rw [if_pos d, if_pos n1]
      · rw [if_neg d, if_neg (fun z => d z.2.1)]
  · have q : gt (pt Z1 9 t 2 l) 9 s 2 = if s = t then l else gt Z1 9 s 2 := by by_cases d : s = t <;> simp [gt_pt, d]
    have q2 : gt Z1 9 s 2 = gt h1 9 s 2 := by
      rw [← z9 s, hZ1]; split
      · rfl
      · simp [gt_pt]
    rw [q, q2]
theorem LN.mv {n : Nat} {S l t od : Int} {sid : Int → Int} {hc hr : zH} (K : LN n S (-1) sid hc hr) (l0 : 0 ≤ l) (l1 : l < n) (op : gt hr 80 0 l = 1) (so : gt hr 76 0 l ≠ 1) (t1 : 1 ≤ t) (t2 : t ≤ S) (ho : gt hr 12 0 43 = od) {hr' : zH} (xr : zFx [78, 79] [(12, 43)] hr hr') (r8 : ∀ k, gt hr' 78 0 k = if k = l then sid t else gt hr 78 0 k) (r9 : ∀ k, gt hr' 79 0 k = if k = l then od else gt hr 79 0 k) (r43 : gt hr' 12 0 43 = od + 1) :
    ∃ hc', F_X4_moveTo l t hc = some (0, hc') ∧ zFx [] [(4, 5), (4, 6), (4, 7), (9, 2)] hc hc' ∧ FrN hc hc' ∧ LN n S (-1) sid hc' hr' := by
  obtain ⟨q1, q2, q3, q4⟩ := K.at l0 l1 op
  obtain ⟨k1, k2⟩ := K
  have Jl : zJo n (gt hr 80 0) (gt hr 76 0) l := ⟨l0, l1, op, so⟩
  obtain ⟨m1, m2, m3, m4⟩ := k2.2.1 l Jl
  have m1 : 1 ≤ gt hc 4 l 5 := m1
  have pos : ∀ s x, zIn n (gt hr 80 0) (gt hr 76 0) (fL hc 5) s x → 0 ≤ x := fun s x a => a.1.1
  have lb : ∀ x, x = (if gt hc 4 l 7 = -1 ∧ gt hc 4 l 5 ≠ -1 ∧ t = gt hc 4 l 5 then gt hc 4 l 6 else gt hc 9 t 2) → x = -1 ∨ (0 ≤ x ∧ x ≠ l) := fun x hx => by
    by_cases z : gt hc 4 l 7 = -1 ∧ gt hc 4 l 5 ≠ -1 ∧ t = gt hc 4 l 5
    · rw [if_pos z] at hx; rw [hx]; exact q1
    · rw [if_neg z] at hx
      rw [hx]
      rcases k2.2.2 t t1 t2 with ⟨a, _⟩ | ⟨a, b⟩
      · exact Or.inl a
      · refine Or.inr ⟨pos _ _ a, fun y => ?_⟩
        have sc : gt hc 4 (gt hc 9 t 2) 5 = t := a.2
        rw [y] at sc
        have i7 : gt hc 4 l 7 ≠ -1 := fun w => z ⟨w, by omega, sc.symm⟩
        rcases m4 with ⟨w, _⟩ | ⟨w1, w2, w3⟩
        · exact i7 w
        · have e5 : fL hc 5 l = t := sc
          rw [e5] at w1
          have b := b (fL hc 7 l) w1
          have w2 : - gt hr 79 0 (fL hc 7 l) < - gt hr 79 0 l := w2
          have y : fS hc t = l := y
          rw [y] at b
          omega
  obtain ⟨h1, hc', x1, e5, e6, e7, e9, f1, f2, f3, f5, f6, f7, f9⟩ := c_mv l0 (show 0 ≤ t by omega) q1 q2 q3 lb
  have nin : ∀ b : Int, (b = -1 ∨ zIn n (gt hr 80 0) (gt hr 76 0) (fL hc 5) (fL hc 5 l) b) → ∀ k, gt hr 76 0 k = 1 → ¬ (k = b ∧ b ≠ -1) := fun b hb k hk h => by
    rcases hb with w | w
    · exact h.2 w
    · rw [← h.1] at w; exact w.1.2.2.2 hk
  have b6 : gt hc 4 l 6 = -1 ∨ zIn n (gt hr 80 0) (gt hr 76 0) (fL hc 5) (fL hc 5 l) (gt hc 4 l 6) := by
    rcases m3 with q | q
    · exact Or.inl q.1
    · exact Or.inr q.1
  have b7 : gt hc 4 l 7 = -1 ∨ zIn n (gt hr 80 0) (gt hr 76 0) (fL hc 5) (fL hc 5 l) (gt hc 4 l 7) := by
    rcases m4 with q | q
    · exact Or.inl q.1
    · exact Or.inr q.1
  have R : DL n S (fun k => if k = l then 0 else gt hr 80 0 k) (gt hr 76 0) (fL h1 5) (fL h1 6) (fL h1 7) (fS h1) (gt hr 79 0) := by
    refine k2.rm (l := l) Jl (fun k => rfl) (fun k z => ?_) (fun k z k0 => ?_) (fun k z k0 => ?_) (fun s s1 => ?_)
    · show gt h1 4 k 5 = gt hc 4 k 5
      rw [e5 k, if_neg z]
    · show gt h1 4 k 6 = if k = gt hc 4 l 7 then gt hc 4 l 6 else gt hc 4 k 6
      rw [e6 k, if_neg z]
      by_cases c : k = gt hc 4 l 7
      · rw [if_pos ⟨c, by omega⟩, if_pos c]
      · rw [if_neg (fun z => c z.1), if_neg c]
    · show gt h1 4 k 7 = if k = gt hc 4 l 6 then gt hc 4 l 7 else gt hc 4 k 7
      rw [e7 k, if_neg z]
      by_cases c : k = gt hc 4 l 6
      · rw [if_pos ⟨c, by omega⟩, if_pos c]
      · rw [if_neg (fun z => c z.1), if_neg c]
    · show gt h1 9 s 2 = if gt hc 4 l 7 = -1 ∧ s = gt hc 4 l 5 then gt hc 4 l 6 else gt hc 9 s 2
      rw [e9 s]
      by_cases c : gt hc 4 l 7 = -1 ∧ s = gt hc 4 l 5
      · rw [if_pos ⟨c.1, by omega, c.2⟩, if_pos c]
      · rw [if_neg (fun z => c ⟨z.1, z.2.2⟩), if_neg c]
  have A : DL n S (gt hr 80 0) (gt hr 76 0) (fL hc' 5) (fL hc' 6) (fL hc' 7) (fS hc') (gt hr' 79 0) := by
    refine R.ad (l := l) (s := t) (v := od) t1 t2 l0 l1 (Nat.le_refl n) (fun k a b _ => b) (fun _ => by show (if l = l then (0 : Int) else gt hr 80 0 l) ≠ 1; rw [if_pos rfl]; decide) (fun k k0 kn _ => ?_) (fun k => ?_) (fun k _ => rfl) so (fun k => f5 k) r9 (fun k _ => f6 k) (fun k k0 => f7 k k0) (fun s _ => f9 s)
    · have := (k1 k k0 kn).2.2.2.2.2
      omega
    · by_cases z : k = l
      · rw [if_pos z, z, op]
      · rw [if_neg z]; show _ = (if k = l then (0 : Int) else gt hr 80 0 k); rw [if_neg z]
  have g : ∀ q : Nat, q ≠ 78 → q ≠ 79 → q ≠ 12 → gt hr' q 0 = gt hr q 0 := fun q z1 z2 z3 => by
    funext j
    exact xr q j (by simp [z1, z2]) (by simp [z3]) 0
  have g0 : gt hr' 12 0 0 = gt hr 12 0 0 := xr 12 0 (by simp) (by decide) 0
  have gc : ∀ k j : Int, 0 ≤ j → j < 5 → gt hc' 4 k j = gt hc 4 k j := fun k j a b => f2 4 j (by simp) (by simp; omega) k
  refine ⟨hc', f1, f2, f3, fun k x y => ?_, ?_⟩
  · obtain ⟨⟨a1, a2, a3, a4, a5, a6, a7, a8⟩, ⟨b1, b2, b3, b4, b5⟩, c1, c2, c3, c4⟩ := k1 k x y
    refine ⟨?_, ?_, ?_⟩
    · unfold LA
      rw [gc k 0 (by decide) (by decide), gc k 1 (by decide) (by decide), gc k 3 (by decide) (by decide), g 75 (by decide) (by decide) (by decide), g 76 (by decide) (by decide) (by decide), g 77 (by decide) (by decide) (by decide), g0]
      exact ⟨a1, a2, a3, a4, a5, a6, a7, a8⟩
    · unfold LB
      rw [gc k 2 (by decide) (by decide), gc k 4 (by decide) (by decide), g 80 (by decide) (by decide) (by decide), g 77 (by decide) (by decide) (by decide)]
      exact ⟨b1, b2, b3, b4, b5⟩
    · unfold LC
      rw [g 80 (by decide) (by decide) (by decide), g 76 (by decide) (by decide) (by decide), g 77 (by decide) (by decide) (by decide), r8, r9, r43, f5 k, f6 k, f7 k x]
      refine ⟨c1, fun z1 z2 => ?_, fun z1 z2 => ?_, ?_⟩
      · have kl : k ≠ l := fun w => so (by rw [← w]; exact z2)
        obtain ⟨y1, y2, y3⟩ := c2 z1 z2
        rw [if_neg kl, if_neg kl, if_neg kl, e5, e6, e7, if_neg kl, if_neg kl, if_neg kl, if_neg (nin _ b7 k z2), if_neg (nin _ b6 k z2), if_neg]
        · exact ⟨y1, y2, y3⟩
        · intro w
          rcases R.2.2 t t1 t2 with ⟨v, _⟩ | ⟨v, _⟩
          · have v : gt h1 9 t 2 = -1 := v
            omega
          · have v := v.1.2.2.2
            have v : gt hr 76 0 (gt h1 9 t 2) ≠ 1 := v
            rw [← w] at v
            exact v z2
      · by_cases kl : k = l
        · rw [if_pos kl, if_pos kl]
        · rw [if_neg kl, if_neg kl, e5, if_neg kl]; exact c3 z1 z2
      · by_cases kl : k = l
        · rw [if_pos kl]; omega
        · rw [if_neg kl]; omega
  · rw [g 80 (by decide) (by decide) (by decide), g 76 (by decide) (by decide) (by decide)]
    exact A
theorem l_pass {B : Int} {n : Nat} {S c l s base : Int} {sid : Int → Int} {b : Nat} {k a : Int} {cx : zK} {hc hr : zH} {t m : Nat} (X : RB B n S c sid b k a cx hc hr) (I : LI k a t m cx hc hr) (E : SX n b hc hr) (e : zjs hc (gt hc 1 k 1) (t + 1) = cx) (l0 : -1 ≤ l) (l1 : l < n) (s0 : 0 ≤ s) (s9 : s ≤ 9) :
    ∃ hc' hr', zb (F_X8_passOn 0 k l s hc) (fun _ h => F_X8_doLine_223 0 k 6 h) = some (0, hc') ∧ F_X12_doSlot 0 6 t l s base hr = some (0, hr') ∧ RES B c (2 * b + 3 + 4 * (160 - gt hc 8 0 14)) hc' hr' := by
  obtain ⟨x1, x2, x3, x4, x5, x6, x7, x8, x9, x10, x11, x12, x13, x14, x15, x16, x17, x18⟩ := X.at
  have C := X.1
  have a1 := C.1
  have a2 := C.2.1
  have a4 := C.2.2.2.1
  have n160 := C.2.2.2.2.2.2.2.2.2.2.1.2.2.2.1
  have K : LN n S (-1) sid hc hr := C.2.2.2.2.2.2.2.2.2.2.2.1
  have rq := X.2.2.2.2.1.2
  obtain ⟨e1, e2⟩ := c_mis (fl := 0) C l0 l1
  by_cases ov : l = -1 ∨ gt hr 80 0 l = 0
  · obtain ⟨hc', hr', f1, f2, f3, f4⟩ := l_fail (op := 6) (kd := 3) (p := if l = -1 then -1 else gt hr 75 0 l) X I.1 (by decide) (by decide)
    refine ⟨hc', hr', ?_, ?_, f4⟩
    · have : (if l = -1 then (3 : Int) else if gt hr 80 0 l = 0 then 3 else if (0 : Int) = 0 then -1 else if gt hc 4 l 4 = -1 then -1 else 2) = 3 := by
        by_cases z : l = -1
        · rw [if_pos z]
        · rcases ov with y | y
          · exact absurd y z
          · rw [if_neg z, if_pos y]
      rw [this] at e1
      unfold F_X8_passOn F_X8_passOn_0
      rw [e1]
      simp only [zb]
      rw [if_neg (by decide), e2]
      simp only []
      rw [if_pos (by decide), f1]
      exact f2
    · unfold F_X12_doSlot F_X12_doSlot_0
      by_cases z : l = -1
      · rw [if_pos (by omega), r_over (k := k) (a := a) a2 l1 n160 l0, f3]
        rfl
      · rcases ov with y | y
        · exact absurd y z
        · rw [if_neg (by omega), if_pos (by decide), pr_40 a2, if_pos (by decide), if_pos ⟨by omega, by omega⟩, if_neg (by simpa using y), r_over (k := k) (a := a) a2 l1 n160 l0, f3]
          rfl
  · have lz : l ≠ -1 := fun z => ov (Or.inl z)
    have oz : gt hr 80 0 l ≠ 0 := fun z => ov (Or.inr z)
    have l00 : 0 ≤ l := by omega
    have op : gt hr 80 0 l = 1 := by
      rcases (K.1 l l00 l1).2.1.2.1 with z | z
      · exact absurd z oz
      · exact z
    have m2 := (K.1 l l00 l1).1.2.1
    rw [if_neg lz, if_neg oz, if_pos rfl] at e1
    rw [if_neg lz] at e2
    obtain ⟨p, hp⟩ : ∃ p : Nat, (p : Int) = b + k := ⟨(b + k).toNat, by omega⟩
    have inn := m_inner (i := s) a2 (X.2.2.1.sk p hp) (by omega) (by omega) s0 (by omega)
    have r97 : F_X12_doSlot_97 0 t (gt hr 75 0 l) hr = zb (F_X12_fail 0 4 t (gt hr 75 0 l) hr) (fun _ h => some (0, h)) := by
      unfold F_X12_doSlot_97
      rw [if_pos (by decide)]
    have c46 : F_X8_passOn_46 0 k l hc = zb (F_X8_fail 0 k 4 (gt hr 75 0 l) hc) (fun _ h => some (0, h)) := by
      unfold F_X8_passOn_46
      rw [e2]
      simp only [zb]
      rw [if_pos (by decide)]
    have fail : F_X8_passOn 0 k l s hc = F_X8_passOn_46 0 k l hc → F_X12_doSlot 0 6 t l s base hr = F_X12_doSlot_97 0 t (gt hr 75 0 l) hr → ∃ hc' hr', zb (F_X8_passOn 0 k l s hc) (fun _ h => F_X8_doLine_223 0 k 6 h) = some (0, hc') ∧ F_X12_doSlot 0 6 t l s base hr = some (0, hr') ∧ RES B c (2 * b + 3 + 4 * (160 - gt hc 8 0 14)) hc' hr' := fun q1 q2 => by
      obtain ⟨hc', hr', f1, f2, f3, f4⟩ := l_fail (op := 6) (kd := 4) (p := gt hr 75 0 l) X I.1 (by decide) (by decide)
      refine ⟨hc', hr', ?_, ?_, f4⟩
      · rw [q1, c46, f1]; exact f2
      · rw [q2, r97, f3]; rfl
    have cs : F_X8_passOn 0 k l s hc = if gt hr 76 0 l = 1 then F_X8_passOn_46 0 k l hc else if s < S then zb (F_X4_moveTo l (S - s) hc) (fun _ h => some (0, h)) else F_X8_passOn_46 0 k l hc := by
      have rS : -1000000 ≤ S - s ∧ S - s ≤ 1000000 := by omega
      unfold F_X8_passOn F_X8_passOn_0
      rw [e1]
      simp only [zb]
      rw [if_pos trivial, if_pos l00, m2]
      by_cases z : gt hr 76 0 l = 1
      · rw [if_pos z, if_pos z]
      · rw [if_neg z, if_neg z, if_pos (by decide), x14, s_within]
        simp only []
        by_cases y : s < S
        · have yb : 0 ≤ S - s ∧ S - s < 91 := by omega
          have w1 : (if 0 ≤ s ∧ s < S then (1 : Int) else 0) = 1 := if_pos ⟨s0, y⟩
          rw [w1, if_pos (by decide), if_pos y, pc_8_6 a1, if_pos (by decide), x14, wI_s rS, if_pos yb, (a4.2.1 (S - s) yb.1 yb.2).2]
        · have w1 : (if 0 ≤ s ∧ s < S then (1 : Int) else 0) = 0 := if_neg fun w => y w.2
          rw [w1, if_neg (by decide), if_neg y]
    have rs : F_X12_doSlot 0 6 t l s base hr = if s < S then (if gt hr 76 0 l ≠ 1 then some (0, pt (pt (pt hr 78 0 l (sid (S - s))) 79 0 l (gt hr 12 0 43)) 12 0 43 (gt hr 12 0 43 + 1)) else F_X12_doSlot_97 0 t (gt hr 75 0 l) hr) else F_X12_doSlot_97 0 t (gt hr 75 0 l) hr := by
      have ro : -1000000 ≤ gt hr 12 0 43 + 1 ∧ gt hr 12 0 43 + 1 ≤ 1000000 := by have := rq.2.2.2.2.1; have := rq.2.2.2.2.2.1; have := rq.2.2.1; omega
      unfold F_X12_doSlot F_X12_doSlot_0
      rw [if_neg (by omega), if_pos (by decide), pr_40 a2, if_pos (by decide), if_pos ⟨by omega, by omega⟩, if_pos oz, pr_35 a2, if_pos (by decide), if_pos (by decide), if_neg (by decide), inn]
      simp only [zb]
      by_cases y : s < S
      · have sp := rq.2.2.2.2.2.2.2.2.2.2.2.2.2 (S - s) (by omega) (by omega)
        rw [if_pos y, if_pos y, if_neg (by omega), pr_36 a2, if_pos (by decide)]
        by_cases z : gt hr 76 0 l = 1
        · rw [if_neg (by simpa using z), if_neg (by simpa using z)]
        · have t39 : gt (pt hr 78 0 l (sid (S - s))) 12 0 39 = 0 := pr_39 a2
          have t43 : gt (pt hr 78 0 l (sid (S - s))) 12 0 43 = gt hr 12 0 43 := rfl
          have t43' : gt (pt (pt hr 78 0 l (sid (S - s))) 79 0 l (gt hr 12 0 43)) 12 0 43 = gt hr 12 0 43 := rfl
          rw [if_pos z, if_pos z, pr_38 a2, if_pos (by decide), t39, if_pos (by decide), t43]
          simp only [zl]
          rw [t43', wI_s ro]
      · rw [if_neg y, if_neg y, if_pos (by decide)]
    by_cases z : gt hr 76 0 l = 1
    · refine fail (by rw [cs, if_pos z]) ?_
      rw [rs]
      by_cases y : s < S
      · rw [if_pos y, if_neg (by simpa using z)]
      · rw [if_neg y]
    · by_cases y : s < S
      · rw [if_neg z, if_pos y] at cs
        rw [if_pos y, if_pos z] at rs
        obtain ⟨hr1, h1⟩ : ∃ hr1, hr1 = pt (pt (pt hr 78 0 l (sid (S - s))) 79 0 l (gt hr 12 0 43)) 12 0 43 (gt hr 12 0 43 + 1) := ⟨_, rfl⟩
        have xr : zFx [78, 79] [(12, 43)] hr hr1 := by rw [h1]; exact (((zFx.rf hr).p1 rfl).p1 rfl).p2 rfl
        obtain ⟨hc1, g1, g2, g3, g4⟩ := K.mv (t := S - s) l00 l1 op z (by omega) (by omega) rfl xr (fun i => by rw [h1]; by_cases w : i = l <;> simp [gt_pt, w]) (fun i => by rw [h1]; by_cases w : i = l <;> simp [gt_pt, w]) (by rw [h1]; rfl)
        have r43 : gt hr1 12 0 43 = gt hr 12 0 43 + 1 := by rw [h1]; rfl
        have C1 : CR B n S c sid hc1 hr1 := by
          obtain ⟨a1, a2, a3, a4, a5, a6, a7, a8, a9, a10, ⟨b1, b2, b3, b4, b5, b6, b7, b8, b9, b10⟩, K, U, H, L, T⟩ := C
          have g : ∀ q : Nat, ([78, 79, 12] : List Nat).contains q = false → gt hr1 q 0 = gt hr q 0 := fun q w => by
            funext j
            refine xr q j (fun v => ?_) (fun v => ?_) 0
            · simp at v w; omega
            · simp at v w; omega
          have gc : ∀ q : Nat, q ≠ 4 → q ≠ 9 → gt hc1 q = gt hc q := fun q w1 w2 => by
            funext i j
            exact g2 q j (by simp) (by simp [w1, w2]) i
          have zg : zLg hr1 = zLg hr := by
            funext i
            unfold zLg
            rw [g 80 rfl, g 76 rfl]
          have r0 : gt hr1 12 0 0 = gt hr 12 0 0 := xr 12 0 (by simp) (by decide) 0
          have r62 : gt hr1 12 0 62 = gt hr 12 0 62 := xr 12 62 (by simp) (by decide) 0
          refine ⟨a1.fr g2 rfl, a2.fr xr rfl, a3.fr g2 rfl, a4.fr g2 rfl g3.1, a5.fr g2 rfl xr rfl, a6.fr g2 rfl xr rfl, a7.fr g2 rfl xr rfl, ?_, a9.fr g2 rfl xr rfl, a10.fr g2 rfl xr rfl,
            ⟨by rw [gc 8 (by decide) (by decide)]; exact b1, by rw [xr 12 34 (by simp) (by decide) 0]; exact b2, by rw [xr 12 56 (by simp) (by decide) 0]; exact b3, b4, by rw [gc 8 (by decide) (by decide)]; exact b5, by rw [xr 12 61 (by simp) (by decide) 0]; exact b6, b7, b8, b9, b10⟩, g4, ?_, ?_, ?_, ?_⟩
          · rw [g 80 rfl]; exact a8.fr g2 rfl xr rfl
          · unfold PU zU
            rw [g 80 rfl, g 76 rfl, g 75 rfl, g 52 rfl, g 89 rfl, r0, r62, gc 6 (by decide) (by decide)]
            exact U
          · unfold PH zU zLc
            rw [zg, g 80 rfl, g 76 rfl, g 75 rfl, g 52 rfl, r0, r62, gc 29 (by decide) (by decide), gc 3 (by decide) (by decide)]
            exact H
          · unfold PL
            rw [g 89 rfl, g 90 rfl, g 91 rfl, g 92 rfl, g 52 rfl, r0, r62, gc 6 (by decide) (by decide), gc 29 (by decide) (by decide), gc 34 (by decide) (by decide), gc 35 (by decide) (by decide)]
            exact L
          · unfold PTr zU
            rw [g 80 rfl, g 76 rfl, g 75 rfl, g 81 rfl, g 82 rfl, gc 6 (by decide) (by decide), gc 34 (by decide) (by decide), gc 35 (by decide) (by decide)]
            exact T
        have Q1 : RQ n S sid b k a hc1 hr1 := by
          obtain ⟨q, ⟨r1, r2, r3, r4, r5, r6, r7, r8, r9, r10, r11, r12, r13⟩⟩ := X.2.2.2.2.1
          obtain ⟨y1, y2, y3, y4⟩ := E
          unfold RQ
          rw [g2 8 3 (by simp) (by decide) 0, g2 8 5 (by simp) (by decide) 0, g2 8 7 (by simp) (by decide) 0, g2 8 14 (by simp) (by decide) 0, g2 8 15 (by simp) (by decide) 0, g2 8 16 (by simp) (by decide) 0,
            xr 12 25 (by simp) (by decide) 0, xr 12 33 (by simp) (by decide) 0, xr 12 67 (by simp) (by decide) 0, xr 12 60 (by simp) (by decide) 0, xr 12 59 (by simp) (by decide) 0, xr 12 55 (by simp) (by decide) 0, xr 12 58 (by simp) (by decide) 0, xr 12 44 (by simp) (by decide) 0, r43]
          exact ⟨q, r1, r2, r3, r4, by omega, by omega, r7, r8, r9, r10, r11, r12, r13⟩
        have X1 : RB B n S c sid b k a cx hc1 hr1 := ⟨C1, X.2.1.fr g2 rfl xr rfl, X.2.2.1.fr g2 rfl (fun i _ => g2 1 2 (by simp) (by decide) i) xr rfl (fun j _ => ⟨xr 72 j (by simp) (by simp) 0, xr 73 j (by simp) (by simp) 0⟩) (by rw [g2 2 6 (by simp) (by decide) 0]; exact Int.le_refl _), X.2.2.2.1, Q1, X.2.2.2.2.2.fr g2 rfl xr rfl⟩
        have I1 := I.fr g2 rfl xr rfl
        have s14 : gt hc1 8 0 14 = gt hc 8 0 14 := g2 8 14 (by simp) (by decide) 0
        have e11 : gt hc1 1 k 1 = gt hc 1 k 1 := g2 1 1 (by simp) (by decide) k
        obtain ⟨hc', q1, q2⟩ := l_go (op := 6) X1 I1 (by decide) (by rw [e11, zjs.fr g2 rfl]; exact e)
        refine ⟨hc', hr1, ?_, by rw [rs, h1], q2.up (by omega)⟩
        rw [cs, g1]; exact q1
      · refine fail (by rw [cs, if_neg z, if_neg y]) (by rw [rs, if_neg y])
