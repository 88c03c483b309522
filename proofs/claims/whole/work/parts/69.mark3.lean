/-! a mark that is reached, on both sides -/
theorem k_loop {B : Int} {n : Nat} {S c : Int} {sid : Int → Int} {b' : Nat} {k a : Int} {cx : zK} {hc hr : zH} {L t m : Nat} (X : RB B n S c sid (b' + 1) k a (((L : Int), (L : Int)) :: cx) hc hr) (W : WY hc hr) (w0 : gt hc 8 0 12 = 0) (e1 : EB hc hr (b' + 1) (b' + k) k 11 L L cx) (e2 : EL hc hr (b' + 1) (b' + k)) (K : Stk hc hr sid b' k S a cx) (p1 : gt hc 1 k 2 = t) (p3 : zS hc hr (gt hc 1 k 1) m) (tm : t < m) (q5 : zjs hc (gt hc 1 k 1) (t + 1) = cx) :
    ∃ hc' hr', F_X8_endTurn 0 k ((b' : Int) + 1) hc = some (0, hc') ∧ F_X12_endBlock 0 t hr = some (0, hr') ∧ RES B c (2 * b' + 2 + 4 * (160 - gt hc 8 0 14)) hc' hr' := by
  obtain ⟨x1, x2, x3, x4, x5, x6, x7, x8, x9, x10, x11, x12, x13, x14, x15, x16, x17, x18⟩ := X.at
  have C := X.1
  have a1 := C.1
  have a2 := C.2.1
  have R := C.2.2.2.2.2.2.2.2.2.1
  have m40 := (p3.e R).2.1
  have rt : -1000000 ≤ (t : Int) + 1 ∧ (t : Int) + 1 ≤ 1000000 := by omega
  have ep : gt hr 12 0 25 - 1 = b' + k := by rw [x13]; omega
  have pb : 0 ≤ (b' : Int) + k ∧ (b' : Int) + k < 150 := by omega
  obtain ⟨y1, y2, y3, y4, y5, y6, m0, y7, y8, y9, y10, y11, y12⟩ := id e1
  obtain ⟨v1, v2, v3, v4⟩ := id W
  have eb := r_eb (t := t) a2 x3 ⟨x1, x2⟩ ep pb y3 (by omega)
  rw [if_pos (by decide), if_neg (by decide)] at eb
  obtain ⟨u, hu⟩ : ∃ u, u = gt hc 0 ((b' : Int) + 1) 2 := ⟨_, rfl⟩
  obtain ⟨l1, l2, l3⟩ := e2
  rw [← l1, ← hu] at eb
  rw [← hu] at l1 l2 l3
  have ru : -1000000 ≤ u - 1 ∧ u - 1 ≤ 1000000 := by omega
  rw [wI_s ru] at eb
  have mL := (y7.e R).2.1
  have rL : -1000000 ≤ (L : Int) + 1 ∧ (L : Int) + 1 ≤ 1000000 := by omega
  have stp := X.2.2.2.2.1.2
  have at' : a ≠ b' + k := fun v => by rw [v, y3] at x5; cases x5
  rw [eb]
  unfold F_X8_endTurn F_X8_endTurn_0
  rw [if_pos (show 0 ≤ (b' : Int) + 1 by omega), ← hu]
  by_cases z : 0 < u
  · have z' : ¬ u ≤ 0 := by omega
    rw [if_pos z, if_pos (Int.le_refl 0), if_neg z']
    obtain ⟨hrM, hM⟩ : ∃ hrM, hrM = pt (pt hr 72 0 a ((t : Int) + 1)) 70 0 (b' + k) (u - 1) := ⟨_, rfl⟩
    have yM : zFx [70, 72] [] hr hrM := by rw [hM]; exact ((zFx.rf hr).p1 rfl).p1 rfl
    have nM : FrN hr hrM := by rw [hM]; exact frpN (frpN (frrN hr))
    have spM : SP B c hc hrM := X.sp.fr (lc := []) (mc := []) (zFx.rf hc) rfl (frrN hc) yM rfl (fun j j0 j1 => ⟨yM 68 j (by simp) (by simp) 0, fun q => by
      have : j ≠ b' + k := fun v => by rw [v, y3] at q; cases q
      rw [hM]; simp [gt_pt, this]⟩)
    rw [← hM]
    rcases m_step (by rw [yM 12 55 (by simp) (by decide) 0]; exact stp.1) stp.2.1 stp.2.2.1 spM (by rw [x15]; exact x7) with ⟨u1, u2, u3⟩ | ⟨u1, hr', u2, u3, u4⟩
    · rw [u2, u3]
      simp only [zb]
      have n10 : ¬ ((1 : Int) = 0) := by decide
      rw [if_neg n10, if_neg n10, if_pos (show 0 ≤ k by omega)]
      have X1 := X.st u1
      obtain ⟨st, hst⟩ : ∃ st, st = gt hc 8 0 14 + 1 := ⟨_, rfl⟩
      rw [← hst] at X1
      rw [← hst]
      have dM : PIr (pt hrM 12 0 55 st) := (a2.fr yM rfl).fr (l := []) (m := [(12, 55)]) ((zFx.rf hrM).p2 rfl) rfl
      obtain ⟨hc1, h1⟩ : ∃ hc1, hc1 = pt hc 8 0 14 st := ⟨_, rfl⟩
      obtain ⟨hr1, k1⟩ : ∃ hr1, hr1 = pt hr 12 0 55 st := ⟨_, rfl⟩
      rw [← h1, ← k1] at X1
      rw [← h1]
      have xh : zFx [] [(8, 14)] hc hc1 := by rw [h1]; exact (zFx.rf hc).p2 rfl
      have xk : zFx [] [(12, 55)] hr hr1 := by rw [k1]; exact (zFx.rf hr).p2 rfl
      have t2 : gt hc1 0 ((b' : Int) + 1) 2 = u := (xh 0 2 (by simp) (by decide) _).trans hu.symm
      rw [t2, wI_s ru]
      have t1 : gt (pt hc1 0 ((b' : Int) + 1) 2 (u - 1)) 0 ((b' : Int) + 1) 1 = L := by
        rw [← y4, ← xh 0 1 (by simp) (by decide) _]; simp [gt_pt]
      have t27 : gt (pt hrM 12 0 55 st) 12 0 27 = 0 := pr_27 dM
      have t69 : gt (pt hrM 12 0 55 st) 69 0 (b' + k) = L := (yM 69 _ (by simp) (by simp) 0).trans y5
      have t67 : gt (pt hrM 12 0 55 st) 12 0 67 = a := (yM 12 67 (by simp) (by simp) 0).trans x3
      rw [t1, wI_s rL, t27, if_pos (Int.le_refl 0), t69, wI_s rL, s_goTo dM t67 x1 x2]
      obtain ⟨hc', hh⟩ : ∃ hc', hc' = pt (pt hc1 0 ((b' : Int) + 1) 2 (u - 1)) 1 k 2 ((L : Int) + 1) := ⟨_, rfl⟩
      obtain ⟨hr', hk⟩ : ∃ hr', hr' = pt (pt hrM 12 0 55 st) 72 0 a ((L : Int) + 1) := ⟨_, rfl⟩
      rw [← hh, ← hk]
      have xc : zFx [0] [(1, 2)] hc1 hc' := by rw [hh]; exact ((zFx.rf hc1).p1 rfl).p2 rfl
      have nc : FrN hc1 hc' := by rw [hh]; exact frpN (frpN (frrN hc1))
      have xr : zFx [70, 72] [] hr1 hr' := fun d j d1 d2 i => by
        rw [hk, hM, k1]
        have q : d ≠ 70 ∧ d ≠ 72 := by simpa using d1
        simp only [gt_pt]
        simp [q]
      have vk : ∀ j, (gt hr' 70 0 j = if j = b' + k then u - 1 else gt hr 70 0 j) ∧ (gt hr' 72 0 j = if j = a then (L : Int) + 1 else gt hr 72 0 j) := fun j => by
        rw [hk, hM]
        by_cases q2 : j = a
        · simp [gt_pt, q2, at']
        · by_cases q1 : j = b' + k
          · have q3 : ¬ ((b' : Int) + k = a) := fun v => at' v.symm
            simp [gt_pt, q1, q3]
          · simp [gt_pt, q1, q2]
      have g11 : gt hc1 1 k 1 = gt hc 1 k 1 := xh 1 1 (by simp) (by decide) k
      have e11 : gt hc' 1 k 1 = gt hc 1 k 1 := (xc 1 1 (by simp) (by decide) k).trans g11
      have v12 : gt hc' 8 0 12 = 0 := ((xc 8 12 (by simp) (by decide) 0).trans (xh 8 12 (by simp) (by decide) 0)).trans w0
      have v52 : gt hr' 12 0 52 = 0 := by rw [xr 12 52 (by simp) (by simp) 0, xk 12 52 (by simp) (by decide) 0, ← v1]; exact w0
      have X2 : RB B n S c sid (b' + 1) k a (((L : Int), (L : Int)) :: cx) hc' hr' := by
        refine X1.tl (e1.fr xh rfl xk rfl) ?_ xc nc (fun i j q => by rw [hh]; simp [gt_pt, q]) ⟨by rw [hh]; simp [gt_pt], by rw [hh]; simp [gt_pt]⟩ (fun i q => by rw [hh]; simp [gt_pt, q]) xr (fun j q => ⟨?_, fun ja => ?_⟩) ⟨?_, ?_, ?_⟩
        · exact K.fr xh rfl (fun i _ => xh 1 2 (by simp) (by decide) i) xk rfl (fun j _ => ⟨xk 72 j (by simp) (by simp) 0, xk 73 j (by simp) (by simp) 0⟩) (by rw [xh 2 6 (by simp) (by decide) 0]; exact Int.le_refl _)
        · rw [(vk j).1, if_neg q, xk 70 j (by simp) (by simp) 0]
        · rw [(vk j).2, if_neg ja, xk 72 j (by simp) (by simp) 0]
        · rw [(vk _).1, if_pos rfl, hh]; simp [gt_pt]
        · have : gt hc' 0 ((b' : Int) + 1) 2 = u - 1 := by rw [hh]; simp [gt_pt]
          rw [this]; omega
        · have : gt hc' 0 ((b' : Int) + 1) 2 = u - 1 := by rw [hh]; simp [gt_pt]
          rw [this]; omega
      refine ⟨hc', hr', rfl, rfl, Or.inl ⟨n, S, sid, b' + 1, k, a, _, ⟨X2, ⟨by rw [v12, v52], by rw [v12]; decide, by rw [v12]; decide, fun q => by rw [v12] at q; cases q⟩, fun _ => ⟨L + 1, m0, ?_, ?_, ?_, by omega, ?_⟩⟩, ?_⟩⟩
      · rw [hh]; simp [gt_pt]
      · rw [(vk a).2, if_pos rfl]; rfl
      · rw [e11]; exact (y7.fr xh rfl xk rfl).fr xc rfl xr rfl
      · rw [e11, zjs.fr xc rfl, zjs.fr xh rfl]; exact y11
      · have v14 : gt hc' 8 0 14 = st := by rw [xc 8 14 (by simp) (by decide) 0, h1]; rfl
        rw [if_pos v12, v14, hst]; omega
    · rw [u1, u2]
      exact ⟨_, hr', rfl, rfl, Or.inr ⟨u3, u4⟩⟩
  · have z' : u ≤ 0 := by omega
    rw [if_neg z, if_pos (Int.le_refl 0), if_pos z', c_pop (b := b') (by rw [x16]; omega) (by omega)]
    simp only [zb]
    have X1 := X.pop K
    obtain ⟨hc1, h1⟩ : ∃ hc1, hc1 = pt hc 8 0 5 b' := ⟨_, rfl⟩
    obtain ⟨hr1, k1⟩ : ∃ hr1, hr1 = pt hr 12 0 25 (b' + k) := ⟨_, rfl⟩
    rw [← h1, ← k1] at X1
    rw [← h1]
    have xh : zFx [] [(8, 5)] hc hc1 := by rw [h1]; exact (zFx.rf hc).p2 rfl
    have xk : zFx [] [(12, 25)] hr hr1 := by rw [k1]; exact (zFx.rf hr).p2 rfl
    obtain ⟨hr2, k2⟩ : ∃ hr2, hr2 = pt (pt hr 72 0 a ((t : Int) + 1)) 12 0 25 (b' + k) := ⟨_, rfl⟩
    have xr2 : zFx [72] [] hr1 hr2 := fun d j d1 d2 i => by
      rw [k2, k1]
      have q : d ≠ 72 := by simpa using d1
      simp only [gt_pt]
      simp [q]
    have v72 : ∀ j, gt hr2 72 0 j = if j = a then (t : Int) + 1 else gt hr1 72 0 j := fun j => by
      rw [k2, k1]
      by_cases q : j = a <;> simp [gt_pt, q]
    have g11 : gt hc1 1 k 1 = gt hc 1 k 1 := xh 1 1 (by simp) (by decide) k
    have g12 : gt hc1 8 0 12 = 0 := (xh 8 12 (by simp) (by decide) 0).trans w0
    have X2 : RB B n S c sid b' k a cx hc1 hr2 := X1.fr (lc := []) (mc := []) (zFx.rf hc1) rfl (frrN hc1) (fun _ _ => rfl) xr2 rfl (fun j z => ⟨by rw [v72, if_neg z], xr2 73 j (by simp) (by simp) 0⟩)
    have RR := l_in X2 (by rw [v72, if_pos rfl]) (by rw [g11]; exact (p3.fr xh rfl xk rfl).fr (lc := []) (mc := []) (zFx.rf hc1) rfl xr2 rfl) tm g12 (by rw [xr2 12 52 (by simp) (by simp) 0, xk 12 52 (by simp) (by decide) 0, ← v1]; exact w0) (by rw [g11, zjs.fr xh rfl]; exact q5)
    refine ⟨_, hr2, ?_, by rw [k2], RR.up (by rw [xh 8 14 (by simp) (by decide) 0]; omega)⟩
    rw [if_pos (show 0 ≤ k by omega), xh 1 2 (by simp) (by decide) k, p1, wI_s rt]
/-- the END of a SCOPE -/
theorem k_scope {B : Int} {n : Nat} {S c : Int} {sid : Int → Int} {b' : Nat} {k a : Int} {cx : zK} {hc hr : zH} {L M t m : Nat} (X : RB B n S c sid (b' + 1) k a (((L : Int), (M : Int)) :: cx) hc hr) (W : WY hc hr) (w0 : gt hc 8 0 12 = 0) (e1 : EB hc hr (b' + 1) (b' + k) k 12 L M cx) (e2 : ES hc hr sid (b' + k) k S L) (K : Stk hc hr sid b' k (S - 1) a cx) (p1 : gt hc 1 k 2 = t) (p3 : zS hc hr (gt hc 1 k 1) m) (tm : t < m) (q5 : zjs hc (gt hc 1 k 1) (t + 1) = cx) :
    ∃ hc' hr', F_X8_endScopeBlock 0 k hc = some (0, hc') ∧ F_X12_endBlock 0 t hr = some (0, hr') ∧ RES B c (2 * b' + 2 + 4 * (160 - gt hc 8 0 14)) hc' hr' := by
  obtain ⟨x1, x2, x3, x4, x5, x6, x7, x8, x9, x10, x11, x12, x13, x14, x15, x16, x17, x18⟩ := X.at
  have C := X.1
  have a2 := C.2.1
  have R := C.2.2.2.2.2.2.2.2.2.1
  have m40 := (p3.e R).2.1
  have rt : -1000000 ≤ (t : Int) + 1 ∧ (t : Int) + 1 ≤ 1000000 := by omega
  have ep : gt hr 12 0 25 - 1 = b' + k := by rw [x13]; omega
  have pb : 0 ≤ (b' : Int) + k ∧ (b' : Int) + k < 150 := by omega
  have y3 := e1.2.2.1
  have eb := r_eb (t := t) a2 x3 ⟨x1, x2⟩ ep pb y3 (by omega)
  rw [if_neg (by decide)] at eb
  obtain ⟨hr0, k0⟩ : ∃ hr0, hr0 = pt hr 72 0 a ((t : Int) + 1) := ⟨_, rfl⟩
  rw [← k0] at eb
  have xr0 : zFx [72] [] hr hr0 := by rw [k0]; exact (zFx.rf hr).p1 rfl
  have v72 : ∀ j, gt hr0 72 0 j = if j = a then (t : Int) + 1 else gt hr 72 0 j := fun j => by
    rw [k0]; by_cases q : j = a <;> simp [gt_pt, q]
  have X0 : RB B n S c sid (b' + 1) k a (((L : Int), (M : Int)) :: cx) hc hr0 := X.fr (lc := []) (mc := []) (zFx.rf hc) rfl (frrN hc) (fun _ _ => rfl) xr0 rfl (fun j z => ⟨by rw [v72, if_neg z], xr0 73 j (by simp) (by simp) 0⟩)
  have W0 : WY hc hr0 := W.fr (lc := []) (mc := []) (zFx.rf hc) rfl (Int.le_refl _) xr0 rfl
  have K0 : Stk hc hr0 sid b' k (S - 1) a cx := K.fr (lc := []) (mc := []) (zFx.rf hc) rfl (fun _ _ => rfl) xr0 rfl (fun j z => ⟨by rw [v72, if_neg z], xr0 73 j (by simp) (by simp) 0⟩) (Int.le_refl _)
  have f2 : ES hc hr0 sid (b' + k) k S L := by
    obtain ⟨i1, i2, i3, i4⟩ := e2
    exact ⟨i1, (xr0 70 _ (by simp) (by simp) 0).trans i2, i3, i4⟩
  rw [eb]
  obtain ⟨hc', hr', g | g⟩ := m_scope X0 W0 (e1.fr (lc := []) (mc := []) (zFx.rf hc) rfl xr0 rfl) f2 K0
  · obtain ⟨g1, g2, g3, g4, g5, g6, g7, g8, g9⟩ := g
    rw [g1, g2]
    have c14 : gt hc' 8 0 14 = gt hc 8 0 14 := g7 8 14 (by decide) (by decide) 0
    by_cases q : gt hc' 8 0 12 = 0
    · have q' : ¬ (gt hc' 8 0 12 ≠ 0) := by simpa using q
      rw [if_neg q']
      have g11 : gt hc' 1 k 1 = gt hc 1 k 1 := g7 1 1 (by decide) (by decide) k
      have RR := l_in g3 (t := t) (m := m) (by rw [g6, v72, if_pos rfl]) (by rw [g11]; exact (p3.fr (lc := []) (mc := []) (zFx.rf hc) rfl xr0 rfl).fr g7 rfl g8 rfl) tm q (by rw [← g4.1]; exact q) (by rw [g11, zjs.fr g7 rfl]; exact q5)
      refine ⟨_, hr', ?_, rfl, RR.up (by rw [c14]; omega)⟩
      rw [g5, p1, wI_s rt]
    · rw [if_pos q]
      refine ⟨hc', hr', rfl, rfl, Or.inl ⟨n, S - 1, sid, b', k, a, cx, ⟨g3, g4, fun v => absurd v q⟩, ?_⟩⟩
      rw [if_neg q, c14]; omega
  · obtain ⟨g1, g2, g3, g4⟩ := g
    rw [g1, g2]
    exact ⟨hc', hr', rfl, rfl, Or.inr ⟨g3, g4⟩⟩
