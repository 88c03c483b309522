/-! GUARDS, and ACTS that end -/
theorem EB.fr {hc hr hc' hr' : zH} {B q k op : Int} {L M : Nat} {cx : zK} {lc lr : List Nat} {mc mr : List (Nat × Int)} (e : EB hc hr B q k op L M cx) (xc : zFx lc mc hc hc') (dc : zdj [43, 44, 45] [(0, 0), (0, 1), (1, 1), (11, 2)] lc mc = true) (xr : zFx lr mr hr hr') (dr : zdj [62, 68, 69] [] lr mr = true) : EB hc' hr' B q k op L M cx := by
  obtain ⟨y1, y2, y3, y4, y5, y6, m, y7, y8, y9, y10, y11, y12⟩ := e
  have e11 : gt hc' 1 k 1 = gt hc 1 k 1 := zdf2 dc xc (by decide) k
  have zj : ∀ u, zjs hc' (gt hc 1 k 1) u = zjs hc (gt hc 1 k 1) u := fun u => zjs.fr xc (zwk dc rfl rfl)
  unfold EB
  rw [e11, zdf2 dc xc (c := 0) (j := 0) (by decide) B, zdf2 dc xc (c := 0) (j := 1) (by decide) B, zdk dr xr (c := 68) (by decide) 0 q, zdk dr xr (c := 69) (by decide) 0 q, zj, zj, zj, zdk dc xc (c := 43) (by decide) _ _]
  exact ⟨y1, y2, y3, y4, y5, y6, m, y7.fr xc (zwk dc rfl rfl) xr (zwk dr rfl rfl), y8, y9, y10, y11, y12⟩
theorem ET.fr {hc hr hc' hr' : zH} {B q k : Int} {M : Nat} {lc lr : List Nat} {mc mr : List (Nat × Int)} (e : ET hc hr B q k M) (xc : zFx lc mc hc hc') (dc : zdj [43] [(0, 3), (0, 4), (0, 5), (0, 6), (1, 1)] lc mc = true) (xr : zFx lr mr hr hr') (dr : zdj [70, 71, 72, 73] [] lr mr = true) (sf : gt hc' 2 0 6 = gt hc 2 0 6) : ET hc' hr' B q k M := by
  unfold ET
  rw [zdf2 dc xc (c := 1) (j := 1) (by decide) k, zdf2 dc xc (c := 0) (j := 3) (by decide) B, zdf2 dc xc (c := 0) (j := 4) (by decide) B, zdf2 dc xc (c := 0) (j := 5) (by decide) B, zdf2 dc xc (c := 0) (j := 6) (by decide) B, zdk dr xr (c := 70) (by decide) 0 q, zdk dr xr (c := 71) (by decide) 0 q, zdk dr xr (c := 72) (by decide) 0 q, zdk dr xr (c := 73) (by decide) 0 q, zdk dc xc (c := 43) (by decide) _ _, sf]
  exact e
theorem m_try_out {B : Int} {n : Nat} {S c : Int} {sid : Int → Int} {b' : Nat} {k a : Int} {cx : zK} {hc hr : zH} {L M : Nat} (X : RB B n S c sid (b' + 1) k a (((L : Int), (M : Int)) :: cx) hc hr) (W : WY hc hr) (w0 : gt hc 8 0 12 ≠ 0) (e1 : EB hc hr (b' + 1) (b' + k) k 13 L M cx) (e2 : ET hc hr (b' + 1) (b' + k) k M) (K : Stk hc hr sid b' k S a cx) (ph : gt hc 0 ((b' : Int) + 1) 3 ≠ 2) :
    ∃ hc' hr', F_X8_leaveTry 0 k ((b' : Int) + 1) hc = some (0, hc') ∧ F_X12_outOfTry 0 hr = some (0, hr') ∧ RES B c (2 * b' + 1 + 4 * (160 - gt hc 8 0 14)) hc' hr' := by
  obtain ⟨x1, x2, x3, x4, x5, x6, x7, x8, x9, x10, x11, x12, x13, x14, x15, x16, x17, x18⟩ := X.at
  have C := X.1
  have F := X.2.1
  have a1 := C.1
  have a2 := C.2.1
  have a4 := C.2.2.2.1
  have R := C.2.2.2.2.2.2.2.2.2.1
  obtain ⟨y1, y2, y3, y4, y5, y6, m, y7, y8, y9, y10, y11, y12⟩ := id e1
  obtain ⟨t1, t2, t3, t4, t5⟩ := id e2
  obtain ⟨v1, v2, v3, v4⟩ := id W
  obtain ⟨o1, o2, o3, o4⟩ := id F
  have m40 := (y7.e R).2.1
  have ac0 := y7.1
  have ep : gt hr 12 0 25 - 1 = b' + k := by rw [x13]; omega
  have rp : -1000000 ≤ gt hr 12 0 25 - 1 ∧ gt hr 12 0 25 - 1 ≤ 1000000 := by omega
  have pb : 0 ≤ (b' : Int) + k ∧ (b' : Int) + k < 150 := by omega
  have c96 : ∀ h, F_X8_leaveTry_96 0 k ((b' : Int) + 1) h = zb (F_X8_leaveWay 0 k ((b' : Int) + 1) h) (fun _ h1 => some (0, h1)) := fun h => by
    unfold F_X8_leaveTry_96
    rw [if_pos (Int.le_refl 0)]
  have r212 : ∀ h, F_X12_outOfTry_212 0 h = zb (F_X12_leaveTry 0 h) (fun _ h1 => some (0, h1)) := fun h => by
    unfold F_X12_outOfTry_212
    rw [if_pos (Int.le_refl 0)]
  have ph70 : gt hr 70 0 (b' + k) ≠ 2 := by rw [← t1]; exact ph
  -- by leaveWay, from wherever it is
  have go : ∀ (hc1 hr1 : zH), zFx [25] [] hc hc1 → FrN hc hc1 → zFx [87] [] hr hr1 → RF hc1 hr1 → F_X8_leaveTry 0 k ((b' : Int) + 1) hc = F_X8_leaveTry_96 0 k ((b' : Int) + 1) hc1 → F_X12_outOfTry 0 hr = F_X12_outOfTry_212 0 hr1 → ∃ hc' hr', F_X8_leaveTry 0 k ((b' : Int) + 1) hc = some (0, hc') ∧ F_X12_outOfTry 0 hr = some (0, hr') ∧ RES B c (2 * b' + 1 + 4 * (160 - gt hc 8 0 14)) hc' hr' := fun hc1 hr1 g1 g2 g3 g4 q1 q2 => by
    have f6 : gt hc1 2 0 6 = gt hc 2 0 6 := g1 2 6 (by simp) (by simp) 0
    have X1 : RB B n S c sid (b' + 1) k a (((L : Int), (M : Int)) :: cx) hc1 hr1 := X.mk (C.fr g1 rfl g2 g3 rfl) g4 g1 rfl (fun i _ => g1 1 2 (by simp) (by simp) i) g3 rfl (fun j _ => ⟨g3 72 j (by simp) (by simp) 0, g3 73 j (by simp) (by simp) 0⟩) (by rw [f6]; exact Int.le_refl _)
    obtain ⟨hc', hr', u1, u2, u3⟩ := m_lw X1 (W.fr g1 rfl (by rw [f6]; exact Int.le_refl _) g3 rfl) (e1.fr g1 rfl g3 rfl) (e2.fr g1 rfl g3 rfl f6) (K.fr g1 rfl (fun i _ => g1 1 2 (by simp) (by simp) i) g3 rfl (fun j _ => ⟨g3 72 j (by simp) (by simp) 0, g3 73 j (by simp) (by simp) 0⟩) (by rw [f6]; exact Int.le_refl _)) (by rw [g1 0 3 (by simp) (by simp) _]; exact ph)
    refine ⟨hc', hr', ?_, ?_, u3.up (by rw [g1 8 14 (by simp) (by simp) 0]; exact Int.le_refl _)⟩
    · rw [q1, c96, u1]; rfl
    · rw [q2, r212, u2]; rfl
  have B0 : 0 ≤ (b' : Int) + 1 := by omega
  have k0 : 0 ≤ k := by omega
  have cA : F_X8_leaveTry 0 k ((b' : Int) + 1) hc = if gt hc 8 0 12 ≠ 3 then F_X8_leaveTry_65 0 k ((b' : Int) + 1) hc else if gt hc 0 ((b' : Int) + 1) 3 ≠ 0 then F_X8_leaveTry_65 0 k ((b' : Int) + 1) hc else zb (F_X2_kindOf 0 (gt hc 8 0 13) hc) (fun r7 h7 => if 0 ≤ gt hc 1 k 0 then (zb (F_X10_guardFor (gt hc 1 k 0) (gt hc 0 ((b' : Int) + 1) 1) r7 h7) (fun r9 h9 => if r9 = (-1) then (F_X8_leaveTry_65 0 k ((b' : Int) + 1) h9) else (zb (F_X8_beginWay 0 k ((b' : Int) + 1) r9 h9) (fun r12 h12 => some (0, h12))))) else none) := by
    unfold F_X8_leaveTry F_X8_leaveTry_0
    rw [if_pos B0, if_pos ph, if_pos (Int.le_refl 0), pc_8_10 a1, if_pos (Int.le_refl 0), if_pos k0]
  have c65 : F_X8_leaveTry_65 0 k ((b' : Int) + 1) hc = if gt hc 8 0 12 ≠ 3 then F_X8_leaveTry_96 0 k ((b' : Int) + 1) hc else if gt hc 0 ((b' : Int) + 1) 3 ≠ 1 then F_X8_leaveTry_96 0 k ((b' : Int) + 1) hc else zb (F_X2_giveCause 0 (gt hc 8 0 13) (gt hc 0 ((b' : Int) + 1) 4) hc) (fun _ h5 => F_X8_leaveTry_96 0 k ((b' : Int) + 1) h5) := by
    unfold F_X8_leaveTry_65
    rw [if_pos (Int.le_refl 0), if_pos B0, pc_8_10 a1, if_pos (Int.le_refl 0)]
  have rA : F_X12_outOfTry 0 hr = if gt hr 70 0 (b' + k) ≠ 0 then F_X12_outOfTry_167 0 (b' + k) hr else if gt hr 12 0 52 ≠ 3 then F_X12_outOfTry_167 0 (b' + k) hr else zb (F_X12_guardOf 0 (gt hc 1 k 1) L hr) (fun r9 h9 => if r9 < 0 then (F_X12_outOfTry_212 0 h9) else (if 0 ≤ gt h9 12 0 28 then (if 0 ≤ gt (pt h9 70 (gt h9 12 0 28) (b' + k) 1) 12 0 30 then (zl (pt (pt h9 70 (gt h9 12 0 28) (b' + k) 1) 72 (gt (pt h9 70 (gt h9 12 0 28) (b' + k) 1) 12 0 30) (b' + k) (gt (pt h9 70 (gt h9 12 0 28) (b' + k) 1) 12 0 53)) (fun k13 => zb (F_X12_step 0 (pt k13 12 0 52 0)) (fun r14 h14 => if r14 = 0 then (some (0, h14)) else (if 0 ≤ gt h14 12 0 31 then (if 0 ≤ gt h14 12 0 67 ∧ gt h14 12 0 67 < 150 then (zb (F_X12_goTo 0 (wI (r9 + 1)) (pt h14 73 (gt h14 12 0 31) (gt h14 12 0 67) r9)) (fun r18 h18 => some (0, h18))) else none) else none)))) else none) else none)) := by
    unfold F_X12_outOfTry F_X12_outOfTry_0
    rw [if_pos (Int.le_refl 0), pr_28 a2, if_pos (Int.le_refl 0), x3, if_pos ⟨x1, x2⟩, wI_s rp, ep, if_pos pb, if_pos ph70, pr_27 a2, if_pos (Int.le_refl 0), x4, y5]
  have r167 : F_X12_outOfTry_167 0 (b' + k) hr = if gt hr 70 0 (b' + k) ≠ 1 then F_X12_outOfTry_212 0 hr else if gt hr 12 0 52 ≠ 3 then F_X12_outOfTry_212 0 hr else if 0 ≤ gt hr 12 0 53 ∧ gt hr 12 0 53 < 16 then (if 0 ≤ gt hr 87 0 (gt hr 12 0 53) then F_X12_outOfTry_212 0 hr else F_X12_outOfTry_212 0 (pt hr 87 0 (gt hr 12 0 53) (gt hr 72 0 (b' + k)))) else none := by
    unfold F_X12_outOfTry_167
    rw [if_pos (Int.le_refl 0), pr_28 a2, if_pos (Int.le_refl 0), if_pos pb, pr_50 a2, if_pos (Int.le_refl 0), pr_30 a2, if_pos (Int.le_refl 0)]
  rw [← v1] at rA r167
  rw [← t1] at rA r167
  have goS : F_X8_leaveTry 0 k ((b' : Int) + 1) hc = F_X8_leaveTry_96 0 k ((b' : Int) + 1) hc → F_X12_outOfTry 0 hr = F_X12_outOfTry_212 0 hr → _ := go hc hr (zFx.rf hc) (frrN hc) (zFx.rf hr) F
  by_cases q3 : gt hc 8 0 12 = 3
  · have q3' : ¬ (gt hc 8 0 12 ≠ 3) := by simpa using q3
    obtain ⟨n1, n2, n3⟩ := v4 q3
    obtain ⟨fl, hfl⟩ : ∃ f, f = gt hc 8 0 13 := ⟨_, rfl⟩
    rw [← hfl] at n1 n2 n3 cA c65
    rw [← n1] at r167
    have fb : 0 ≤ fl ∧ fl < 16 := by omega
    rw [if_neg q3'] at cA c65
    simp only [if_neg q3'] at rA
    rw [if_neg q3', if_pos fb] at r167
    by_cases p0 : gt hc 0 ((b' : Int) + 1) 3 = 0
    · have p0' : ¬ (gt hc 0 ((b' : Int) + 1) 3 ≠ 0) := by simpa using p0
      rw [if_neg p0'] at cA rA
      rw [if_pos (by omega)] at c65
      obtain ⟨kd, hkd⟩ : ∃ kd, kd = gt hr 83 0 fl := ⟨_, rfl⟩
      have ok := o4 fl n2 n3
      have ek : F_X2_kindOf 0 fl hc = some (kd, hc) := by
        unfold F_X2_kindOf F_X2_kindOf_0
        rw [if_pos (Int.le_refl 0), s_within, if_pos ⟨n2, n3⟩]
        simp only [zb]
        rw [if_neg (by decide), pc_2_0 a1, if_pos (Int.le_refl 0), if_pos fb, ok.1, hkd]
      rw [ek] at cA
      simp only [zb] at cA
      rw [x6, if_pos (by omega), y4] at cA
      rcases gd2 (kd := kd) R C.2.2.1 a4 a2 y7 (by rw [← n1]; exact fb) (by rw [← n1, hkd]) (by rw [hkd]; exact ok.2.2.2.2.2.2.1) (by rw [hkd]; exact ok.2.2.2.2.2.2.2.1) (show L < m by omega) y11 with ⟨u1, u2⟩ | ⟨g, g1, g2, g3, g4, u1, u2⟩
      · rw [u1] at cA
        rw [u2] at rA
        simp only [zb] at cA rA
        rw [if_pos trivial, c65] at cA
        rw [if_pos (by decide)] at rA
        exact goS cA rA
      · rw [u1] at cA
        rw [u2] at rA
        simp only [zb, zl] at cA rA
        rw [if_neg (by omega)] at cA
        have t53 : gt (pt hr 70 0 (b' + k) 1) 12 0 53 = fl := n1.symm
        have t30 : gt (pt hr 70 0 (b' + k) 1) 12 0 30 = 0 := pr_30 a2
        have rg : -1000000 ≤ (g : Int) + 1 ∧ (g : Int) + 1 ≤ 1000000 := by omega
        rw [if_neg (by omega), pr_28 a2, if_pos (Int.le_refl 0), t30, if_pos (Int.le_refl 0), t53, wI_s rg] at rA
        obtain ⟨hrM, hM⟩ : ∃ hrM, hrM = pt (pt (pt hr 70 0 (b' + k) 1) 72 0 (b' + k) fl) 12 0 52 0 := ⟨_, rfl⟩
        rw [← hM] at rA
        have stp := X.2.2.2.2.1.2
        have yM : zFx [70, 72] [(12, 52)] hr hrM := by rw [hM]; exact (((zFx.rf hr).p1 rfl).p1 rfl).p2 rfl
        have spM : SP B c hc hrM := X.sp.fr (lc := []) (mc := []) (zFx.rf hc) rfl (frrN hc) yM rfl (fun j j0 j1 => ⟨yM 68 j (by simp) (by simp) 0, fun q => by
          have : j ≠ b' + k := fun v => by rw [v, y3] at q; cases q
          rw [hM]; simp [gt_pt, this]⟩)
        have bw : F_X8_beginWay 0 k ((b' : Int) + 1) g hc = zb (F_X8_step 0 hc) (fun r1 h1 => if r1 = 0 then (some (0, h1)) else (some (0, (pt (pt (pt (pt (pt h1 0 ((b' : Int) + 1) 3 1) 0 ((b' : Int) + 1) 4 (gt (pt h1 0 ((b' : Int) + 1) 3 1) 8 0 13)) 8 0 12 0) 8 0 13 (-1)) 1 k 2 ((g : Int) + 1))))) := by
          unfold F_X8_beginWay F_X8_beginWay_0
          rw [if_pos (Int.le_refl 0), wI_s rg]
          simp only [if_pos B0, if_pos k0]
        rw [bw] at cA
        rw [cA, rA]
        rcases m_step (by rw [yM 12 55 (by simp) (by decide) 0]; exact stp.1) stp.2.1 stp.2.2.1 spM (by rw [x15]; exact x7) with ⟨s1, s2, s3⟩ | ⟨s1, hr', s2, s3, s4⟩
        · rw [s2, s3]
          simp only [zb]
          rw [if_neg (by decide), if_neg (by decide)]
          have X1 := X.st s1
          obtain ⟨st, hst⟩ : ∃ st, st = gt hc 8 0 14 + 1 := ⟨_, rfl⟩
          rw [← hst] at X1
          rw [← hst]
          have dM : PIr (pt hrM 12 0 55 st) := (a2.fr yM rfl).fr (l := []) (m := [(12, 55)]) ((zFx.rf hrM).p2 rfl) rfl
          have t67 : gt (pt hrM 12 0 55 st) 12 0 67 = a := (yM 12 67 (by simp) (by decide) 0).trans x3
          obtain ⟨hc1, h1⟩ : ∃ hc1, hc1 = pt hc 8 0 14 st := ⟨_, rfl⟩
          obtain ⟨hr1, k1⟩ : ∃ hr1, hr1 = pt hr 12 0 55 st := ⟨_, rfl⟩
          rw [← h1, ← k1] at X1
          have c12 : gt hc1 8 0 12 = gt hc 8 0 12 ∧ gt hc1 8 0 13 = gt hc 8 0 13 ∧ gt hc1 8 0 14 = st ∧ gt hc1 2 0 6 = gt hc 2 0 6 := by rw [h1]; exact ⟨rfl, rfl, rfl, rfl⟩
          have xh : zFx [] [(8, 14)] hc hc1 := by rw [h1]; exact (zFx.rf hc).p2 rfl
          have xk : zFx [] [(12, 55)] hr hr1 := by rw [k1]; exact (zFx.rf hr).p2 rfl
          obtain ⟨hc', hh⟩ : ∃ hc', hc' = pt (pt (pt (pt (pt hc1 0 ((b' : Int) + 1) 3 1) 0 ((b' : Int) + 1) 4 fl) 8 0 12 0) 8 0 13 (-1)) 1 k 2 ((g : Int) + 1) := ⟨_, rfl⟩
          obtain ⟨hr', hk⟩ : ∃ hr', hr' = pt (pt (pt hrM 12 0 55 st) 73 0 a g) 72 0 a ((g : Int) + 1) := ⟨_, rfl⟩
          have xc : zFx [0] [(1, 2), (8, 12), (8, 13)] hc1 hc' := by rw [hh]; exact (((((zFx.rf hc1).p1 rfl).p1 rfl).p2 rfl).p2 rfl).p2 rfl
          have nc : FrN hc1 hc' := by rw [hh]; exact frpN (frpN (frpN (frpN (frpN (frrN hc1)))))
          have at' : a ≠ b' + k := fun v => by rw [v, y3] at x5; cases x5
          have vk : ∀ j, (gt hr' 70 0 j = if j = b' + k then 1 else gt hr 70 0 j) ∧ (gt hr' 71 0 j = gt hr 71 0 j) ∧ (gt hr' 73 0 j = if j = a then (g : Int) else gt hr 73 0 j) ∧ (gt hr' 72 0 j = if j = a then (g : Int) + 1 else if j = b' + k then fl else gt hr 72 0 j) := fun j => by
            rw [hk, hM]
            by_cases q1 : j = b' + k
            · have q2 : ¬ j = a := fun v => at' (v.symm.trans q1)
              have q3 : ¬ ((b' : Int) + k = a) := fun v => at' v.symm
              simp [gt_pt, q1, q3]
            · by_cases q2 : j = a
              · simp [gt_pt, q2, at']
              · simp [gt_pt, q1, q2]
          have xr : zFx [70, 71, 72, 73] [(12, 52), (12, 53)] hr1 hr' := fun d j d1 d2 i => by
            rw [hk, hM, k1]
            have q : d ≠ 70 ∧ d ≠ 71 ∧ d ≠ 72 ∧ d ≠ 73 := by simpa using d1
            have q2 : ¬ (d = 12 ∧ j = 52) := fun v => d2 (by rw [v.1, v.2]; decide)
            simp only [gt_pt]
            simp [q]
            by_cases y : d = 12 ∧ i = 0 ∧ j = 55
            · rw [if_pos y, if_pos y]
            · rw [if_neg y, if_neg y]
              rw [if_neg (fun v => q2 ⟨v.1, v.2.2⟩)]
          have e43 : gt hc' 43 = gt hc 43 := by funext i j; exact (xc 43 j (by simp) (by simp) i).trans (xh 43 j (by simp) (by simp) i)
          have e11 : gt hc' 1 k 1 = gt hc 1 k 1 := (xc 1 1 (by simp) (by decide) k).trans (xh 1 1 (by simp) (by decide) k)
          have g11 : gt hc1 1 k 1 = gt hc 1 k 1 := xh 1 1 (by simp) (by decide) k
          have b0 : gt hc' 0 ((b' : Int) + 1) 3 = 1 ∧ gt hc' 0 ((b' : Int) + 1) 4 = fl ∧ gt hc' 0 ((b' : Int) + 1) 0 = gt hc1 0 ((b' : Int) + 1) 0 ∧ gt hc' 0 ((b' : Int) + 1) 1 = gt hc1 0 ((b' : Int) + 1) 1 ∧ gt hc' 8 0 12 = 0 ∧ gt hc' 1 k 2 = (g : Int) + 1 := by rw [hh]; simp [gt_pt]
          have f26 : gt hc' 2 0 6 = gt hc 2 0 6 := (xc 2 6 (by simp) (by decide) 0).trans c12.2.2.2
          have X2 : RB B n S c sid (b' + 1) k a (((L : Int), (g : Int)) :: cx) hc' hr' := by
            refine X1.tt (m := m) (M' := g) (M := M) (L := L) (e1.fr xh rfl xk rfl) ?_ ?_ (by omega) g2 ?_ xc nc (fun i j q => by rw [hh]; simp [gt_pt, q]) ⟨b0.2.2.1, b0.2.2.2.1⟩ (fun i q => by rw [hh]; simp [gt_pt, q]) xr (fun j q => ?_) ?_
            · exact K.fr xh rfl (fun i _ => xh 1 2 (by simp) (by decide) i) xk rfl (fun j _ => ⟨xk 72 j (by simp) (by simp) 0, xk 73 j (by simp) (by simp) 0⟩) (by rw [c12.2.2.2]; exact Int.le_refl _)
            · rw [g11]; exact y7.fr xh rfl xk rfl
            · rw [g11, zjs.fr xh rfl]; exact g4
            · obtain ⟨s1, s2, s3, s4⟩ := vk j
              rw [s1, s2, if_neg q, xk 70 j (by simp) (by simp) 0, xk 71 j (by simp) (by simp) 0]
              refine ⟨rfl, rfl, fun ja => ?_⟩
              rw [s3, s4, if_neg ja, if_neg ja, if_neg q, xk 72 j (by simp) (by simp) 0, xk 73 j (by simp) (by simp) 0]
              exact ⟨rfl, rfl⟩
            · obtain ⟨s1, s2, s3, s4⟩ := vk (b' + k)
              have q3 : ¬ ((b' : Int) + k = a) := fun v => at' v.symm
              rw [if_pos rfl] at s1
              rw [if_neg q3, if_pos rfl] at s4
              unfold ET
              rw [b0.1, b0.2.1, s1, s4, e11, e43, f26]
              refine ⟨rfl, Or.inr (Or.inl rfl), ⟨(fun v => by cases v), fun v => ?_⟩, fun _ => ⟨rfl, n2, n3⟩, (fun v => by cases v)⟩
              rw [g3] at v; cases v
          refine ⟨hc', hr', ?_, ?_, Or.inl ⟨n, S, sid, b' + 1, k, a, _, ⟨X2, ⟨?_, ?_, ?_, fun q => ?_⟩, fun _ => ⟨g + 1, m, b0.2.2.2.2.2, ?_, ?_, by omega, ?_⟩⟩, ?_⟩⟩
          · rw [hh, h1, hfl]
            rfl
          · rw [pr_31 dM, if_pos (Int.le_refl 0), t67, if_pos ⟨x1, x2⟩, s_goTo (h := pt (pt hrM 12 0 55 st) 73 0 a g) (a := a) (dM.fr (l := [73]) (m := []) ((zFx.rf _).p1 rfl) rfl) t67 x1 x2, hk]
          · rw [b0.2.2.2.2.1, hk, hM]; simp [gt_pt]
          · rw [b0.2.2.2.2.1]; decide
          · rw [b0.2.2.2.2.1]; decide
          · rw [b0.2.2.2.2.1] at q; cases q
          · rw [(vk a).2.2.2, if_pos rfl]; rfl
          · rw [e11]
            exact (y7.fr xh rfl xk rfl).fr xc rfl xr rfl
          · rw [e11, zjs.fr xc rfl, zjs.fr xh rfl]; exact g4
          · rw [if_pos b0.2.2.2.2.1, xc 8 14 (by simp) (by decide) 0, c12.2.2.1, hst]; omega
        · rw [s1, s2]
          exact ⟨_, hr', rfl, rfl, Or.inr ⟨s3, s4⟩⟩
    · rw [if_pos p0, c65] at cA
      rw [if_pos p0, r167] at rA
      by_cases p1 : gt hc 0 ((b' : Int) + 1) 3 = 1
      · have p1' : ¬ (gt hc 0 ((b' : Int) + 1) 3 ≠ 1) := by simpa using p1
        rw [if_neg p1'] at cA rA
        obtain ⟨u1, u2, u3⟩ := t4 p1
        have ok := o4 fl n2 n3
        have eg : F_X2_giveCause 0 fl (gt hc 0 ((b' : Int) + 1) 4) hc = some (0, if gt hr 87 0 fl = -1 then pt hc 25 0 fl (gt hc 0 ((b' : Int) + 1) 4) else hc) := by
          unfold F_X2_giveCause F_X2_giveCause_0
          rw [if_pos (Int.le_refl 0), s_within, if_pos ⟨n2, n3⟩]
          simp only [zb]
          rw [if_neg (by decide), pc_2_4 a1, if_pos (Int.le_refl 0), if_pos fb, ok.2.2.2.2.1]
          by_cases z : gt hr 87 0 fl = -1
          · rw [if_neg (by simpa using z), if_pos z]
          · rw [if_pos z, if_neg z]
        rw [eg] at cA
        simp only [zb] at cA
        by_cases z : gt hr 87 0 fl = -1
        · rw [if_pos z] at cA
          rw [if_neg (by omega)] at rA
          refine go _ _ ((zFx.rf hc).p1 rfl) (frpN (frrN hc)) ((zFx.rf hr).p1 rfl) ?_ cA rA
          refine ⟨o1, o2, o3, fun j j0 j1 => ?_⟩
          obtain ⟨p1, p2, p3, p4, p5, p6, p7, p8, p9⟩ := o4 j j0 j1
          have e87 : gt (pt hr 87 0 fl (gt hr 72 0 (b' + k))) 87 0 j = if j = fl then gt hr 72 0 (b' + k) else gt hr 87 0 j := by by_cases y : j = fl <;> simp [gt_pt, y]
          have e25 : gt (pt hc 25 0 fl (gt hc 0 ((b' : Int) + 1) 4)) 25 0 j = if j = fl then gt hc 0 ((b' : Int) + 1) 4 else gt hc 25 0 j := by by_cases y : j = fl <;> simp [gt_pt, y]
          refine ⟨p1, p2, p3, p4, ?_, p6, p7, p8, ?_⟩
          · rw [e87, e25, u1, p5]
          · rw [e87]
            split
            · rw [← u1]; omega
            · exact p9
        · rw [if_neg z] at cA
          have := ok.2.2.2.2.2.2.2.2
          rw [if_pos (by omega)] at rA
          exact goS cA rA
      · rw [if_pos p1] at cA rA
        exact goS cA rA
  · rw [if_pos q3, c65, if_pos q3] at cA
    refine goS cA ?_
    rw [rA, r167]
    simp only [if_pos q3]
    split
    · split <;> rfl
    · split <;> rfl
