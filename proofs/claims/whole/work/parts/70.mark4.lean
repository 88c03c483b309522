/-! the END of a TRY -/
theorem k_last {B : Int} {n : Nat} {S c : Int} {sid : Int → Int} {b' : Nat} {k a : Int} {cx : zK} {hc hr : zH} {L M t m : Nat} (X : RB B n S c sid (b' + 1) k a (((L : Int), (M : Int)) :: cx) hc hr) (W : WY hc hr) (w0 : gt hc 8 0 12 = 0) (e1 : EB hc hr (b' + 1) (b' + k) k 13 L M cx) (e2 : ET hc hr (b' + 1) (b' + k) k M) (K : Stk hc hr sid b' k S a cx) (ph : gt hc 0 ((b' : Int) + 1) 3 = 2) (p1 : gt hc 1 k 2 = t) (p3 : zS hc hr (gt hc 1 k 1) m) (tm : t < m) (q5 : zjs hc (gt hc 1 k 1) (t + 1) = cx) :
    ∃ hc' hr', F_X8_endLastWay 0 k ((b' : Int) + 1) hc = some (0, hc') ∧ F_X12_endBlock 0 t hr = some (0, hr') ∧ RES B c (2 * b' + 2 + 4 * (160 - gt hc 8 0 14)) hc' hr' := by
  obtain ⟨x1, x2, x3, x4, x5, x6, x7, x8, x9, x10, x11, x12, x13, x14, x15, x16, x17, x18⟩ := X.at
  have C := X.1
  have a2 := C.2.1
  have R := C.2.2.2.2.2.2.2.2.2.1
  have m40 := (p3.e R).2.1
  have rt : -1000000 ≤ (t : Int) + 1 ∧ (t : Int) + 1 ≤ 1000000 := by omega
  have ep : gt hr 12 0 25 - 1 = b' + k := by rw [x13]; omega
  have pb : 0 ≤ (b' : Int) + k ∧ (b' : Int) + k < 150 := by omega
  have y3 := e1.2.2.1
  obtain ⟨z1, z2, z3, z4, z5⟩ := e2
  obtain ⟨f1, f2, f3, f4⟩ := z5 ph
  have eb := r_eb (t := t) a2 x3 ⟨x1, x2⟩ ep pb y3 (by omega)
  have n2 : ¬ (gt hr 70 0 (b' + k) ≠ 2) := by rw [← z1, ph]; decide
  rw [if_pos (by decide), if_pos (by decide), if_neg n2, ← f1] at eb
  obtain ⟨v, hv⟩ : ∃ v, v = gt hc 0 ((b' : Int) + 1) 5 := ⟨_, rfl⟩
  obtain ⟨fl, hfl⟩ : ∃ fl, fl = gt hc 0 ((b' : Int) + 1) 6 := ⟨_, rfl⟩
  rw [← hv] at eb f1 f2 f3 f4
  rw [← hfl] at f4
  have X1 := X.pop K
  obtain ⟨hc1, h1⟩ : ∃ hc1, hc1 = pt hc 8 0 5 b' := ⟨_, rfl⟩
  obtain ⟨hr1, k1⟩ : ∃ hr1, hr1 = pt hr 12 0 25 (b' + k) := ⟨_, rfl⟩
  rw [← h1, ← k1] at X1
  have xh : zFx [] [(8, 5)] hc hc1 := by rw [h1]; exact (zFx.rf hc).p2 rfl
  have xk : zFx [] [(12, 25)] hr hr1 := by rw [k1]; exact (zFx.rf hr).p2 rfl
  obtain ⟨hc', hh⟩ : ∃ hc', hc' = pt (pt (pt (pt hc 8 0 12 v) 8 0 13 fl) 8 0 5 b') 1 k 2 ((t : Int) + 1) := ⟨_, rfl⟩
  obtain ⟨hr', hk⟩ : ∃ hr', hr' = pt (pt (pt (pt hr 72 0 a ((t : Int) + 1)) 12 0 52 v) 12 0 53 (gt hr 73 0 (b' + k))) 12 0 25 (b' + k) := ⟨_, rfl⟩
  have xc : zFx [] [(1, 2), (8, 12), (8, 13)] hc1 hc' := fun d j d1 d2 i => by
    rw [hh, h1]
    have q1 : ¬ (d = 1 ∧ j = 2) := fun v => d2 (by rw [v.1, v.2]; decide)
    have q2 : ¬ (d = 8 ∧ j = 12) := fun v => d2 (by rw [v.1, v.2]; decide)
    have q3 : ¬ (d = 8 ∧ j = 13) := fun v => d2 (by rw [v.1, v.2]; decide)
    simp only [gt_pt]
    rw [if_neg (fun v => q1 ⟨v.1, v.2.2⟩)]
    by_cases y : d = 8 ∧ i = 0 ∧ j = 5
    · rw [if_pos y, if_pos y]
    · rw [if_neg y, if_neg y, if_neg (fun v => q3 ⟨v.1, v.2.2⟩), if_neg (fun v => q2 ⟨v.1, v.2.2⟩)]
  have nc : FrN hc1 hc' := by rw [hh, h1]; exact FrN.tr ⟨(frpN (frrN hc)).1.symm, (frpN (frrN hc)).2.symm⟩ (frpN (frpN (frpN (frpN (frrN hc)))))
  have xr : zFx [72] [(12, 52), (12, 53)] hr1 hr' := fun d j d1 d2 i => by
    rw [hk, k1]
    have q1 : d ≠ 72 := by simpa using d1
    have q2 : ¬ (d = 12 ∧ j = 52) := fun v => d2 (by rw [v.1, v.2]; decide)
    have q3 : ¬ (d = 12 ∧ j = 53) := fun v => d2 (by rw [v.1, v.2]; decide)
    simp only [gt_pt]
    by_cases y : d = 12 ∧ i = 0 ∧ j = 25
    · rw [if_pos y, if_pos y]
    · rw [if_neg y, if_neg y, if_neg (fun v => q3 ⟨v.1, v.2.2⟩), if_neg (fun v => q2 ⟨v.1, v.2.2⟩), if_neg (fun v => q1 v.1)]
  have v72 : ∀ j, gt hr' 72 0 j = if j = a then (t : Int) + 1 else gt hr1 72 0 j := fun j => by
    rw [hk, k1]; by_cases q : j = a <;> simp [gt_pt, q]
  have v52 : gt hr' 12 0 52 = v ∧ gt hr' 12 0 53 = gt hr 73 0 (b' + k) := by rw [hk]; exact ⟨rfl, rfl⟩
  have v12 : gt hc' 8 0 12 = v ∧ gt hc' 8 0 13 = fl := by rw [hh]; exact ⟨rfl, rfl⟩
  have f26 : gt hc' 2 0 6 = gt hc 2 0 6 := (xc 2 6 (by simp) (by decide) 0).trans (xh 2 6 (by simp) (by decide) 0)
  have g11 : gt hc' 1 k 1 = gt hc 1 k 1 := (xc 1 1 (by simp) (by decide) k).trans (xh 1 1 (by simp) (by decide) k)
  have X2 : RB B n S c sid b' k a cx hc' hr' := X1.fr xc rfl nc (fun i q => by rw [hh, h1]; simp [gt_pt, q]) xr rfl (fun j z => ⟨by rw [v72, if_neg z], xr 73 j (by simp) (by simp) 0⟩)
  refine ⟨hc', hr', ?_, by rw [eb, hk], Or.inl ⟨n, S, sid, b', k, a, cx, ⟨X2, ⟨by rw [v12.1, v52.1], by rw [v12.1]; exact f2, by rw [v12.1]; exact f3, fun q => ?_⟩, fun _ => ⟨t + 1, m, ?_, ?_, ?_, tm, ?_⟩⟩, ?_⟩⟩
  · have t6 : gt (pt hc 8 0 12 v) 0 ((b' : Int) + 1) 6 = fl := hfl.symm
    have t5 : gt (pt (pt hc 8 0 12 v) 8 0 13 fl) 8 0 5 = (b' : Int) + 1 := by
      have : gt (pt (pt hc 8 0 12 v) 8 0 13 fl) 8 0 5 = gt hc 8 0 5 := rfl
      rw [this, x16]; omega
    have tk : gt (pt (pt (pt hc 8 0 12 v) 8 0 13 fl) 8 0 5 b') 1 k 2 = t := p1
    unfold F_X8_endLastWay F_X8_endLastWay_0
    rw [if_pos (show 0 ≤ (b' : Int) + 1 by omega), if_pos (Int.le_refl 0), ← hv, t6, c_pop (b := b') t5 (by omega)]
    simp only [zb]
    rw [if_pos (show 0 ≤ k by omega), tk, wI_s rt, hh]
  · rw [v12.1] at q
    rw [v12.2, v52.2, f26]
    exact f4 q
  · rw [hh]; simp [gt_pt]
  · rw [v72, if_pos rfl]; rfl
  · rw [g11]; exact (p3.fr xh rfl xk rfl).fr xc rfl xr rfl
  · rw [g11, zjs.fr xc rfl, zjs.fr xh rfl]; exact q5
  · rw [xc 8 14 (by simp) (by decide) 0, xh 8 14 (by simp) (by decide) 0]
    split <;> omega
theorem k_way {B : Int} {n : Nat} {S c : Int} {sid : Int → Int} {b' : Nat} {k a : Int} {cx : zK} {hc hr : zH} {L M t m : Nat} (X : RB B n S c sid (b' + 1) k a (((L : Int), (M : Int)) :: cx) hc hr) (W : WY hc hr) (w0 : gt hc 8 0 12 = 0) (e1 : EB hc hr (b' + 1) (b' + k) k 13 L M cx) (e2 : ET hc hr (b' + 1) (b' + k) k M) (K : Stk hc hr sid b' k S a cx) (ph : gt hc 0 ((b' : Int) + 1) 3 ≠ 2) (p3 : zS hc hr (gt hc 1 k 1) m) (tm : t < m) (o : gt hc 43 (gt hc 1 k 1 + 1) t = 16) (p5 : zjs hc (gt hc 1 k 1) t = ((L : Int), (M : Int)) :: cx) (q5 : zjs hc (gt hc 1 k 1) (t + 1) = cx) :
    ∃ hc' hr', F_X8_leaveWay 0 k ((b' : Int) + 1) hc = some (0, hc') ∧ F_X12_endBlock 0 t hr = some (0, hr') ∧ RES B c (2 * b' + 2 + 4 * (160 - gt hc 8 0 14)) hc' hr' := by
  obtain ⟨x1, x2, x3, x4, x5, x6, x7, x8, x9, x10, x11, x12, x13, x14, x15, x16, x17, x18⟩ := X.at
  have C := X.1
  have a2 := C.2.1
  have a4 := C.2.2.2.1
  have R := C.2.2.2.2.2.2.2.2.2.1
  have m40 := (p3.e R).2.1
  have k3 := R.2.2.1
  have acn := p3.2.1
  have ac0 := p3.1
  have rt : -1000000 ≤ (t : Int) + 1 ∧ (t : Int) + 1 ≤ 1000000 := by omega
  have ep : gt hr 12 0 25 - 1 = b' + k := by rw [x13]; omega
  have pb : 0 ≤ (b' : Int) + k ∧ (b' : Int) + k < 150 := by omega
  obtain ⟨y1, y2, y3, y4, y5, y6, m0, y7, y8, y9, y10, y11, y12⟩ := id e1
  obtain ⟨z1, z2, z3, z4, z5⟩ := e2
  have em : m0 = m := by
    have i1 := y7.2.2.1
    have i2 := p3.2.2.1
    omega
  subst em
  have eb := r_eb (t := t) a2 x3 ⟨x1, x2⟩ ep pb y3 (by omega)
  have n2 : gt hr 70 0 (b' + k) ≠ 2 := by rw [← z1]; exact ph
  rw [if_pos (by decide), if_pos (by decide), if_pos n2] at eb
  have Lt : L < t := by
    have I := (jst_in (gt hc 43 (gt hc 1 k 1 + 1)) (gt hc 44 (gt hc 1 k 1 + 1)) (gt hc 45 (gt hc 1 k 1 + 1)) t).1
    have p5' : js (gt hc 43 (gt hc 1 k 1 + 1)) (gt hc 44 (gt hc 1 k 1 + 1)) (gt hc 45 (gt hc 1 k 1 + 1)) t = ((L : Int), (M : Int)) :: cx := p5
    rw [p5'] at I
    have := I _ (List.mem_cons_self ..)
    have i1 : (L : Int) ≤ (M : Int) := this.2.1
    have i2 : (M : Int) < (t : Int) := this.2.2
    omega
  obtain ⟨w, mm, w1, w2, w3, w4, w5, w6, w7, w8, w9, w10⟩ := wo2 R a4 a2 y7 (by omega) y11
  have mO : gt hc 43 (gt hc 1 k 1 + 1) M ≠ 15 := fun q => ph (z3.mpr q)
  have wt : w = t := by
    refine Classical.byContradiction fun ne => ?_
    by_cases lt : t < w
    · exact end_le p3 y10 Lt lt (by omega) o q5 w4
    · rcases w3 with o5 | o6
      · obtain ⟨q, s1, s2, s3, s4, s5, s6, s7, s8⟩ := nx1 R a4 a2 p3 w2 (w5 o5)
        by_cases q16 : gt hc 43 (gt hc 1 k 1 + 1) q = 16
        · have eq : q = t := by
            refine Classical.byContradiction fun ne2 => ?_
            by_cases lt2 : t < q
            · exact end_le p3 y10 Lt lt2 (by omega) o q5 s4
            · exact end_le p3 y10 (by omega) (show q < t by omega) (by omega) q16 (s8 q16) p5
          rw [eq, p5] at s4
          injection s4 with s4
          injection s4 with _ s4
          rw [s4] at mO
          exact mO o5
        · exact (s7 q16).2.2 o5
      · exact end_le p3 y10 w1 (show w < t by omega) (by omega) o6 (w6 o6) p5
  subst wt
  have n15 : ¬ gt hc 43 (gt hc 1 k 1 + 1) w = 15 := by omega
  obtain ⟨sO, _, _, _⟩ := s_at4 (k := w) a4 (show 1 ≤ gt hc 1 k 1 + 1 by omega) (show gt hc 1 k 1 + 1 ≤ gt hc 11 0 2 by omega) (by rw [(p3.e R).2.2.1]; omega)
  rw [if_pos (by rw [(p3.e R).2.2.1]; omega)] at sO
  obtain ⟨v1, v2, v3, v4⟩ := W
  have X1 := X.pop K
  obtain ⟨hc1, h1⟩ : ∃ hc1, hc1 = pt hc 8 0 5 b' := ⟨_, rfl⟩
  obtain ⟨hr1, k1⟩ : ∃ hr1, hr1 = pt hr 12 0 25 (b' + k) := ⟨_, rfl⟩
  rw [← h1, ← k1] at X1
  have xh : zFx [] [(8, 5)] hc hc1 := by rw [h1]; exact (zFx.rf hc).p2 rfl
  have xk : zFx [] [(12, 25)] hr hr1 := by rw [k1]; exact (zFx.rf hr).p2 rfl
  have g12 : gt hc1 8 0 12 = 0 := (xh 8 12 (by simp) (by decide) 0).trans w0
  have g11 : gt hc1 1 k 1 = gt hc 1 k 1 := xh 1 1 (by simp) (by decide) k
  have n0 : ¬ (gt hc1 8 0 12 ≠ 0) := by simpa using g12
  obtain ⟨hr', hk⟩ : ∃ hr', hr' = pt (pt (pt (pt hr 72 0 a ((w : Int) + 1)) 12 0 52 0) 12 0 53 (gt hr 12 0 53)) 12 0 25 (b' + k) := ⟨_, rfl⟩
  have xr : zFx [72] [(12, 52), (12, 53)] hr1 hr' := fun d j d1 d2 i => by
    rw [hk, k1]
    have q1 : d ≠ 72 := by simpa using d1
    have q2 : ¬ (d = 12 ∧ j = 52) := fun v => d2 (by rw [v.1, v.2]; decide)
    have q3 : ¬ (d = 12 ∧ j = 53) := fun v => d2 (by rw [v.1, v.2]; decide)
    simp only [gt_pt]
    by_cases y : d = 12 ∧ i = 0 ∧ j = 25
    · rw [if_pos y, if_pos y]
    · rw [if_neg y, if_neg y, if_neg (fun v => q3 ⟨v.1, v.2.2⟩), if_neg (fun v => q2 ⟨v.1, v.2.2⟩), if_neg (fun v => q1 v.1)]
  have v72 : ∀ j, gt hr' 72 0 j = if j = a then (w : Int) + 1 else gt hr1 72 0 j := fun j => by
    rw [hk, k1]; by_cases q : j = a <;> simp [gt_pt, q]
  have v52 : gt hr' 12 0 52 = 0 := by rw [hk]; rfl
  have X2 : RB B n S c sid b' k a cx hc1 hr' := X1.fr (lc := []) (mc := []) (zFx.rf hc1) rfl (frrN hc1) (fun _ _ => rfl) xr rfl (fun j z => ⟨by rw [v72, if_neg z], xr 73 j (by simp) (by simp) 0⟩)
  have RR := l_in X2 (by rw [v72, if_pos rfl]) (by rw [g11]; exact (p3.fr xh rfl xk rfl).fr (lc := []) (mc := []) (zFx.rf hc1) rfl xr rfl) tm g12 v52 (by rw [g11, zjs.fr xh rfl]; exact q5)
  refine ⟨_, hr', ?_, by rw [eb, hk], RR.up (by rw [xh 8 14 (by simp) (by decide) 0]; omega)⟩
  unfold F_X8_leaveWay F_X8_leaveWay_0
  rw [if_pos (show 0 ≤ k by omega), if_pos (show 0 ≤ (b' : Int) + 1 by omega), x6, if_pos (show 0 ≤ gt hc 1 k 1 + 1 by omega), y4, w8]
  simp only [zb]
  rw [x6, if_pos (show 0 ≤ gt hc 1 k 1 + 1 by omega), sO]
  simp only []
  rw [if_neg n15, if_pos (Int.le_refl 0), c_pop (b := b') (by rw [x16]; omega) (by omega), ← h1]
  simp only []
  rw [if_neg n0, wI_s rt]
