/-! TRY: the ways out -/
theorem RB.tt {B : Int} {n : Nat} {S c : Int} {sid : Int → Int} {b' : Nat} {k a : Int} {cx : zK} {hc hr hc' hr' : zH} {L M M' m : Nat} (X : RB B n S c sid (b' + 1) k a (((L : Int), (M : Int)) :: cx) hc hr) (e : EB hc hr (b' + 1) (b' + k) k 13 L M cx) (K : Stk hc hr sid b' k S a cx) (Z : zS hc hr (gt hc 1 k 1) m) (l1 : L ≤ M') (l2 : M' < m) (l3 : zjs hc (gt hc 1 k 1) (M' + 1) = ((L : Int), (M' : Int)) :: cx)
    (xc : zFx [0] [(1, 2), (8, 12), (8, 13)] hc hc') (en : FrN hc hc') (x0 : ∀ i j, i ≠ (b' : Int) + 1 → gt hc' 0 i j = gt hc 0 i j) (x01 : gt hc' 0 ((b' : Int) + 1) 0 = gt hc 0 ((b' : Int) + 1) 0 ∧ gt hc' 0 ((b' : Int) + 1) 1 = gt hc 0 ((b' : Int) + 1) 1) (x12 : ∀ i, i ≠ k → gt hc' 1 i 2 = gt hc 1 i 2)
    (xr : zFx [70, 71, 72, 73] [(12, 52), (12, 53)] hr hr') (x70 : ∀ j, j ≠ (b' : Int) + k → gt hr' 70 0 j = gt hr 70 0 j ∧ gt hr' 71 0 j = gt hr 71 0 j ∧ (j ≠ a → gt hr' 72 0 j = gt hr 72 0 j ∧ gt hr' 73 0 j = gt hr 73 0 j)) (T : ET hc' hr' (b' + 1) (b' + k) k M') :
    RB B n S c sid (b' + 1) k a (((L : Int), (M' : Int)) :: cx) hc' hr' := by
  obtain ⟨z1, z2, z3, z4, z5, z6⟩ := X
  obtain ⟨y1, y2, y3, y4, y5, y6, m0, y7, y8, y9, y10, y11, y12⟩ := e
  have g43 : ∀ q : Nat, ([43, 44, 45] : List Nat).contains q = true → gt hc' q = gt hc q := fun q z => by
    funext i j
    refine xc q j (fun w => ?_) (fun w => ?_) i
    · simp at w z; omega
    · simp at w z; omega
  have KO : Stk hc' hr' sid b' k S a cx := K.cg (x := a) (g43 43 rfl) (g43 44 rfl) (g43 45 rfl) (xc 11 2 (by simp) (by decide) 0) (by funext j; exact xr 62 j (by simp) (by simp) 0) (by rw [xc 2 6 (by simp) (by decide) 0]; exact Int.le_refl _) (Or.inl rfl) (fun i i1 i2 j => x0 i j (by omega)) (fun i i1 i2 => ⟨xc 1 0 (by simp) (by decide) i, xc 1 1 (by simp) (by decide) i, fun w => x12 i (by omega)⟩) (fun i i1 i2 => ⟨xc 9 0 (by simp) (by decide) i, xc 9 1 (by simp) (by decide) i, rfl⟩) (fun j j0 j1 => by
    obtain ⟨w1, w2, w3⟩ := x70 j (by omega)
    exact ⟨xr 68 j (by simp) (by simp) 0, xr 69 j (by simp) (by simp) 0, w1, w2, w3⟩)
  have e11 : gt hc' 1 k 1 = gt hc 1 k 1 := xc 1 1 (by simp) (by decide) k
  have zj : ∀ u, zjs hc' (gt hc 1 k 1) u = zjs hc (gt hc 1 k 1) u := fun u => zjs.fr xc rfl
  refine ⟨z1.fr xc rfl en xr rfl, z2.fr xc rfl xr rfl, Or.inr ⟨L, M', cx, rfl, Or.inr (Or.inr ⟨⟨y1, ?_, ?_, ?_, ?_, ?_, m, ?_, l1, l2, ?_, ?_, ?_⟩, T, KO⟩)⟩, z4, z5.fr xc rfl xr rfl, z6.fr xc rfl xr rfl⟩
  · rw [x01.1]; exact y2
  · rw [xr 68 _ (by simp) (by simp) 0]; exact y3
  · rw [x01.2]; exact y4
  · rw [xr 69 _ (by simp) (by simp) 0]; exact y5
  · rw [e11, g43 43 rfl]; exact y6
  · rw [e11]; exact Z.fr xc rfl xr rfl
  · rw [e11, zj]; exact y10
  · rw [e11, zj]; exact y11
  · rw [e11, zj]; exact l3
/-- BODY or a WAY is left -/
theorem m_lw {B : Int} {n : Nat} {S c : Int} {sid : Int → Int} {b' : Nat} {k a : Int} {cx : zK} {hc hr : zH} {L M : Nat} (X : RB B n S c sid (b' + 1) k a (((L : Int), (M : Int)) :: cx) hc hr) (W : WY hc hr) (e1 : EB hc hr (b' + 1) (b' + k) k 13 L M cx) (e2 : ET hc hr (b' + 1) (b' + k) k M) (K : Stk hc hr sid b' k S a cx) (ph : gt hc 0 ((b' : Int) + 1) 3 ≠ 2) :
    ∃ hc' hr', F_X8_leaveWay 0 k ((b' : Int) + 1) hc = some (0, hc') ∧ F_X12_leaveTry 0 hr = some (0, hr') ∧ RES B c (2 * b' + 1 + 4 * (160 - gt hc 8 0 14)) hc' hr' := by
  obtain ⟨x1, x2, x3, x4, x5, x6, x7, x8, x9, x10, x11, x12, x13, x14, x15, x16, x17, x18⟩ := X.at
  have C := X.1
  have a1 := C.1
  have a2 := C.2.1
  have a4 := C.2.2.2.1
  have R := C.2.2.2.2.2.2.2.2.2.1
  obtain ⟨y1, y2, y3, y4, y5, y6, m, y7, y8, y9, y10, y11, y12⟩ := id e1
  obtain ⟨f1, f2, f3, f4, f5⟩ := y7.e R
  have ac0 := y7.1
  have acn := y7.2.1
  have k3 := R.2.2.1
  obtain ⟨w, mm, w1, w2, w3, w4, w5, w6, w7, w8, w9, w10⟩ := wo2 R a4 a2 y7 (by omega) y11
  obtain ⟨v1, v2, v3, v4⟩ := W
  have rw' : -1000000 ≤ (w : Int) + 1 ∧ (w : Int) + 1 ≤ 1000000 := by omega
  have ep : gt hr 12 0 25 - 1 = b' + k := by rw [x13]; omega
  have rp : -1000000 ≤ gt hr 12 0 25 - 1 ∧ gt hr 12 0 25 - 1 ≤ 1000000 := by omega
  have pb : 0 ≤ (b' : Int) + k ∧ (b' : Int) + k < 150 := by omega
  obtain ⟨sO, _, _, _⟩ := s_at4 (k := w) a4 (show 1 ≤ gt hc 1 k 1 + 1 by omega) (show gt hc 1 k 1 + 1 ≤ gt hc 11 0 2 by omega) (by omega)
  rw [if_pos (by omega)] at sO
  have ph70 : ¬ 2 ≤ gt hr 70 0 (b' + k) := by
    rw [← e2.1]
    have := e2.2.1
    omega
  have stp := X.2.2.2.2.1.2
  have cs : F_X8_leaveWay 0 k ((b' : Int) + 1) hc = if gt hc 43 (gt hc 1 k 1 + 1) w = 15 then zb (F_X8_step 0 hc) (fun r8 h8 => if r8 = 0 then (some (0, h8)) else (some (0, pt (pt (pt (pt (pt (pt h8 0 ((b' : Int) + 1) 3 2) 0 ((b' : Int) + 1) 5 (gt (pt h8 0 ((b' : Int) + 1) 3 2) 8 0 12)) 0 ((b' : Int) + 1) 6 (gt (pt (pt h8 0 ((b' : Int) + 1) 3 2) 0 ((b' : Int) + 1) 5 (gt (pt h8 0 ((b' : Int) + 1) 3 2) 8 0 12)) 8 0 13)) 8 0 12 0) 8 0 13 (-1)) 1 k 2 ((w : Int) + 1)))) else (if gt hc 8 0 12 ≠ 0 then some (0, pt hc 8 0 5 b') else some (0, pt (pt hc 8 0 5 b') 1 k 2 ((w : Int) + 1))) := by
    unfold F_X8_leaveWay F_X8_leaveWay_0
    rw [if_pos (show 0 ≤ k by omega), if_pos (show 0 ≤ (b' : Int) + 1 by omega), x6, if_pos (show 0 ≤ gt hc 1 k 1 + 1 by omega), y4, w8]
    simp only [zb]
    rw [x6, if_pos (show 0 ≤ gt hc 1 k 1 + 1 by omega), sO]
    simp only []
    by_cases z : gt hc 43 (gt hc 1 k 1 + 1) w = 15
    · rw [if_pos z, if_pos z, if_pos (Int.le_refl 0), wI_s rw']
      rfl
    · rw [if_neg z, if_neg z, if_pos (Int.le_refl 0), c_pop (b := b') (by rw [x16]; omega) (by omega), wI_s rw']
      rfl
  obtain ⟨hrM, hM⟩ : ∃ hrM, hrM = pt (pt (pt (pt hr 71 0 (b' + k) (gt hr 12 0 52)) 73 0 (b' + k) (gt hr 12 0 53)) 70 0 (b' + k) 2) 12 0 52 0 := ⟨_, rfl⟩
  have rs : F_X12_leaveTry 0 hr = if gt hc 43 (gt hc 1 k 1 + 1) w = 15 then zb (F_X12_step 0 hrM) (fun r14 h14 => if r14 = 0 then (some (0, h14)) else (if 0 ≤ gt h14 12 0 31 then (if 0 ≤ gt h14 12 0 67 ∧ gt h14 12 0 67 < 150 then (zb (F_X12_goTo 0 ((w : Int) + 1) (pt h14 73 (gt h14 12 0 31) (gt h14 12 0 67) w)) (fun r18 h18 => some (0, h18))) else none) else none)) else F_X12_leaveTry_100 0 (b' + k) (gt hc 1 k 1) hr := by
    unfold F_X12_leaveTry F_X12_leaveTry_0
    rw [if_pos (Int.le_refl 0), pr_28 a2, if_pos (Int.le_refl 0), x3, if_pos ⟨x1, x2⟩, pr_27 a2, if_pos (Int.le_refl 0), wI_s rp, ep, if_pos pb, x4, y5, w9]
    simp only [zb, zl]
    rw [pr_28 a2, if_pos (Int.le_refl 0), if_neg ph70]
    by_cases z : gt hc 43 (gt hc 1 k 1 + 1) w = 15
    · have t31 : gt (pt hr 71 0 (b' + k) (gt hr 12 0 52)) 12 0 31 = 0 := pr_31 a2
      have t53 : gt (pt hr 71 0 (b' + k) (gt hr 12 0 52)) 12 0 53 = gt hr 12 0 53 := rfl
      have t28 : gt (pt (pt hr 71 0 (b' + k) (gt hr 12 0 52)) 73 0 (b' + k) (gt hr 12 0 53)) 12 0 28 = 0 := pr_28 a2
      rw [if_pos z, if_pos z, if_neg (by omega), pr_29 a2, if_pos (Int.le_refl 0), t31, if_pos (Int.le_refl 0), t53, t28, if_pos (Int.le_refl 0), wI_s rw', ← hM]
    · rw [if_neg z, if_neg z, if_pos (by decide)]
  rw [cs, rs]
  by_cases z : gt hc 43 (gt hc 1 k 1 + 1) w = 15
  · rw [if_pos z, if_pos z]
    have yM : zFx [70, 71, 73] [(12, 52)] hr hrM := by rw [hM]; exact ((((zFx.rf hr).p1 rfl).p1 rfl).p1 rfl).p2 rfl
    have nM : FrN hr hrM := by rw [hM]; exact frpN (frpN (frpN (frpN (frrN hr))))
    have spM : SP B c hc hrM := X.sp.fr (lc := []) (mc := []) (zFx.rf hc) rfl (frrN hc) yM rfl (fun j j0 j1 => ⟨yM 68 j (by simp) (by simp) 0, fun q => by
      have : j ≠ b' + k := fun v => by rw [v, y3] at q; cases q
      rw [hM]; simp [gt_pt, this]⟩)
    rcases m_step (by rw [yM 12 55 (by simp) (by decide) 0]; exact stp.1) stp.2.1 stp.2.2.1 spM (by rw [x15]; exact x7) with ⟨u1, u2, u3⟩ | ⟨u1, hr', u2, u3, u4⟩
    · rw [u2, u3]
      simp only [zb]
      rw [if_neg (by decide), if_neg (by decide)]
      have X1 := X.st u1
      obtain ⟨st, hst⟩ : ∃ st, st = gt hc 8 0 14 + 1 := ⟨_, rfl⟩
      rw [← hst] at X1
      rw [← hst]
      have dM : PIr (pt hrM 12 0 55 st) := (a2.fr yM rfl).fr (l := []) (m := [(12, 55)]) ((zFx.rf hrM).p2 rfl) rfl
      have t67 : gt (pt hrM 12 0 55 st) 12 0 67 = a := (yM 12 67 (by simp) (by decide) 0).trans x3
      obtain ⟨hc1, h1⟩ : ∃ hc1, hc1 = pt hc 8 0 14 st := ⟨_, rfl⟩
      obtain ⟨hr1, k1⟩ : ∃ hr1, hr1 = pt hr 12 0 55 st := ⟨_, rfl⟩
      rw [← h1, ← k1] at X1
      have c12 : gt hc1 8 0 12 = gt hc 8 0 12 ∧ gt hc1 8 0 13 = gt hc 8 0 13 ∧ gt hc1 8 0 14 = st ∧ gt hc1 2 0 6 = gt hc 2 0 6 := by rw [h1]; exact ⟨rfl, rfl, rfl, rfl⟩
      have xh : zFx [] [(8, 14)] hc hc1 := by rw [h1]; exact (zFx.rf hc).p2 rfl
      have xk : zFx [] [(12, 55)] hr hr1 := by rw [k1]; exact (zFx.rf hr).p2 rfl
      obtain ⟨hc', hh⟩ : ∃ hc', hc' = pt (pt (pt (pt (pt (pt hc1 0 ((b' : Int) + 1) 3 2) 0 ((b' : Int) + 1) 5 (gt hc 8 0 12)) 0 ((b' : Int) + 1) 6 (gt hc 8 0 13)) 8 0 12 0) 8 0 13 (-1)) 1 k 2 ((w : Int) + 1) := ⟨_, rfl⟩
      obtain ⟨hr', hk⟩ : ∃ hr', hr' = pt (pt (pt hrM 12 0 55 st) 73 0 a w) 72 0 a ((w : Int) + 1) := ⟨_, rfl⟩
      have xc : zFx [0] [(1, 2), (8, 12), (8, 13)] hc1 hc' := by rw [hh]; exact ((((((zFx.rf hc1).p1 rfl).p1 rfl).p1 rfl).p2 rfl).p2 rfl).p2 rfl
      have nc : FrN hc1 hc' := by rw [hh]; exact frpN (frpN (frpN (frpN (frpN (frpN (frrN hc1))))))
      have at' : a ≠ b' + k := fun v => by rw [v, y3] at x5; cases x5
      have vk : ∀ j, (gt hr' 70 0 j = if j = b' + k then 2 else gt hr 70 0 j) ∧ (gt hr' 71 0 j = if j = b' + k then gt hr 12 0 52 else gt hr 71 0 j) ∧ (gt hr' 73 0 j = if j = a then (w : Int) else if j = b' + k then gt hr 12 0 53 else gt hr 73 0 j) ∧ (gt hr' 72 0 j = if j = a then (w : Int) + 1 else gt hr 72 0 j) := fun j => by
        rw [hk, hM]
        by_cases q1 : j = b' + k
        · have q2 : ¬ j = a := fun v => at' (v.symm.trans q1)
          have q3 : ¬ ((b' : Int) + k = a) := fun v => at' v.symm
          simp [gt_pt, q1, q3]
        · by_cases q2 : j = a
          · simp [gt_pt, q2, at']
          · simp [gt_pt, q1, q2]
      have xr : zFx [70, 71, 72, 73] [(12, 52), (12, 53)] hr1 hr' := fun d j d1 d2 i => by
        rw [hk, hM, k1]
        have q : d ≠ 70 ∧ d ≠ 71 ∧ d ≠ 72 ∧ d ≠ 73 := by simpa using d1
        have q2 : ¬ (d = 12 ∧ j = 52) := fun v => d2 (by rw [v.1, v.2]; decide)
        simp only [gt_pt]
        simp [q]
        by_cases y : d = 12 ∧ i = 0 ∧ j = 55
        · rw [if_pos y, if_pos y]
        · rw [if_neg y, if_neg y]
          rw [if_neg (fun v => q2 ⟨v.1, v.2.2⟩)]
      have xrF : zFx [70, 71, 72, 73] [(12, 52), (12, 55)] hr hr' := by rw [hk]; exact ((((yM.wk rfl rfl : zFx [70, 71, 72, 73] [(12, 52), (12, 55)] hr hrM)).p2 rfl).p1 rfl).p1 rfl
      have e43 : gt hc' 43 = gt hc 43 := by funext i j; exact (xc 43 j (by simp) (by simp) i).trans (xh 43 j (by simp) (by simp) i)
      have e11 : gt hc' 1 k 1 = gt hc 1 k 1 := (xc 1 1 (by simp) (by decide) k).trans (xh 1 1 (by simp) (by decide) k)
      have g11 : gt hc1 1 k 1 = gt hc 1 k 1 := xh 1 1 (by simp) (by decide) k
      have b0 : gt hc' 0 ((b' : Int) + 1) 3 = 2 ∧ gt hc' 0 ((b' : Int) + 1) 5 = gt hc 8 0 12 ∧ gt hc' 0 ((b' : Int) + 1) 6 = gt hc 8 0 13 ∧ gt hc' 0 ((b' : Int) + 1) 0 = gt hc1 0 ((b' : Int) + 1) 0 ∧ gt hc' 0 ((b' : Int) + 1) 1 = gt hc1 0 ((b' : Int) + 1) 1 ∧ gt hc' 8 0 12 = 0 ∧ gt hc' 1 k 2 = (w : Int) + 1 := by rw [hh]; simp [gt_pt]
      have f26 : gt hc' 2 0 6 = gt hc 2 0 6 := (xc 2 6 (by simp) (by decide) 0).trans c12.2.2.2
      have X2 : RB B n S c sid (b' + 1) k a (((L : Int), (w : Int)) :: cx) hc' hr' := by
        refine X1.tt (m := m) (M' := w) (M := M) (L := L) ?_ ?_ ?_ (by omega) (by omega) ?_ xc nc (fun i j q => by rw [hh]; simp [gt_pt, q]) ⟨b0.2.2.2.1, b0.2.2.2.2.1⟩ (fun i q => by rw [hh]; simp [gt_pt, q]) xr (fun j q => ?_) ?_
        · unfold EB at e1 ⊢
          rw [g11, xh 0 0 (by simp) (by decide) _, xh 0 1 (by simp) (by decide) _, xk 68 _ (by simp) (by simp) 0, xk 69 _ (by simp) (by simp) 0, zjs.fr xh rfl, zjs.fr xh rfl, zjs.fr xh rfl, xh 43 _ (by simp) (by simp) _]
          exact ⟨y1, y2, y3, y4, y5, y6, m, y7.fr xh rfl xk rfl, y8, y9, y10, y11, y12⟩
        · exact K.fr xh rfl (fun i _ => xh 1 2 (by simp) (by decide) i) xk rfl (fun j _ => ⟨xk 72 j (by simp) (by simp) 0, xk 73 j (by simp) (by simp) 0⟩) (by rw [c12.2.2.2]; exact Int.le_refl _)
        · rw [g11]; exact y7.fr xh rfl xk rfl
        · rw [g11, zjs.fr xh rfl]; exact w5 z
        · obtain ⟨s1, s2, s3, s4⟩ := vk j
          rw [s1, s2, if_neg q, if_neg q, xk 70 j (by simp) (by simp) 0, xk 71 j (by simp) (by simp) 0]
          refine ⟨rfl, rfl, fun ja => ?_⟩
          rw [s3, s4, if_neg ja, if_neg ja, if_neg q, xk 72 j (by simp) (by simp) 0, xk 73 j (by simp) (by simp) 0]
          exact ⟨rfl, rfl⟩
        · obtain ⟨s1, s2, s3, s4⟩ := vk (b' + k)
          have q3 : ¬ ((b' : Int) + k = a) := fun v => at' v.symm
          rw [if_pos rfl] at s1 s2
          rw [if_neg q3, if_pos rfl] at s3
          unfold ET
          rw [b0.1, b0.2.1, b0.2.2.1, s1, s2, s3, e11, e43, f26]
          refine ⟨rfl, Or.inr (Or.inr rfl), ⟨fun _ => z, fun _ => rfl⟩, (fun v => by cases v), fun _ => ⟨v1, v2, v3, fun q => v4 q⟩⟩
      refine ⟨hc', hr', ?_, ?_, Or.inl ⟨n, S, sid, b' + 1, k, a, _, ⟨X2, ⟨?_, ?_, ?_, fun q => ?_⟩, fun _ => ⟨w + 1, m, b0.2.2.2.2.2.2, ?_, ?_, by omega, ?_⟩⟩, ?_⟩⟩
      · rw [hh, h1]
        rfl
      · rw [pr_31 dM, if_pos (Int.le_refl 0), t67, if_pos ⟨x1, x2⟩, s_goTo (h := pt (pt hrM 12 0 55 st) 73 0 a w) (a := a) (dM.fr (l := [73]) (m := []) ((zFx.rf _).p1 rfl) rfl) t67 x1 x2, hk]
      · rw [b0.2.2.2.2.2.1, hk, hM]; simp [gt_pt]
      · rw [b0.2.2.2.2.2.1]; decide
      · rw [b0.2.2.2.2.2.1]; decide
      · rw [b0.2.2.2.2.2.1] at q; cases q
      · rw [(vk a).2.2.2, if_pos rfl]; rfl
      · rw [e11]
        exact (y7.fr xh rfl xk rfl).fr xc rfl xr rfl
      · rw [e11, zjs.fr xc rfl, zjs.fr xh rfl]; exact w5 z
      · rw [if_pos b0.2.2.2.2.2.1, xc 8 14 (by simp) (by decide) 0, c12.2.2.1, hst]; omega
    · rw [u1, u2]
      exact ⟨_, hr', rfl, rfl, Or.inr ⟨u3, u4⟩⟩
  · have o16 : gt hc 43 (gt hc 1 k 1 + 1) w = 16 := by omega
    rw [if_neg z, if_neg z]
    have X1 := X.pop K
    obtain ⟨hc1, h1⟩ : ∃ hc1, hc1 = pt hc 8 0 5 b' := ⟨_, rfl⟩
    obtain ⟨hr1, k1⟩ : ∃ hr1, hr1 = pt hr 12 0 25 (b' + k) := ⟨_, rfl⟩
    rw [← h1, ← k1] at X1
    rw [← h1]
    have xh : zFx [] [(8, 5)] hc hc1 := by rw [h1]; exact (zFx.rf hc).p2 rfl
    have xk : zFx [] [(12, 25)] hr hr1 := by rw [k1]; exact (zFx.rf hr).p2 rfl
    have g12 : gt hc1 8 0 12 = gt hc 8 0 12 := xh 8 12 (by simp) (by decide) 0
    have g52 : gt hr1 12 0 52 = gt hr 12 0 52 := xk 12 52 (by simp) (by decide) 0
    have g11 : gt hc1 1 k 1 = gt hc 1 k 1 := xh 1 1 (by simp) (by decide) k
    have W1 : WY hc1 hr1 := WY.fr (show WY hc hr from ⟨v1, v2, v3, v4⟩) xh rfl (by rw [xh 2 6 (by simp) (by decide) 0]; exact Int.le_refl _) xk rfl
    have r100 : F_X12_leaveTry_100 0 (b' + k) (gt hc 1 k 1) hr = if gt hc 8 0 12 ≠ 0 then some (0, hr1) else some (0, pt hr1 72 0 a ((w : Int) + 1)) := by
      unfold F_X12_leaveTry_100
      rw [if_pos (Int.le_refl 0), wI_s rp, ep, ← k1, g52, ← v1]
      by_cases q : gt hc 8 0 12 = 0
      · have e10 : F_X12_endOf 0 (gt hc 1 k 1) L hr1 = some ((w : Int), hr1) := by
          have R1 : RSx hc hr1 := R.fr (lc := []) (mc := []) (zFx.rf hc) rfl xk rfl
          obtain ⟨w', mm', s1, s2, s3, s4, s5, s6, s7, s8, s9, s10⟩ := wo2 R1 a4 (a2.fr xk rfl) (y7.fr (lc := []) (mc := []) (zFx.rf hc) rfl xk rfl) (show L < m by omega) y11
          rw [w8] at s8
          have ew : (w : Int) = w' := by injection s8 with s8; injection s8
          have ew' : w' = w := by omega
          rw [ew'] at s10
          exact s10 o16
        have q' : ¬ (gt hc 8 0 12 ≠ 0) := by simpa using q
        rw [if_neg q', if_neg q', xk 12 27 (by simp) (by decide) 0, pr_27 a2, if_pos (Int.le_refl 0), if_pos pb, xk 69 _ (by simp) (by simp) 0, y5, e10]
        simp only [zb]
        rw [wI_s rw', s_goTo (a := a) (a2.fr xk rfl) ((xk 12 67 (by simp) (by decide) 0).trans x3) x1 x2]
      · rw [if_pos q, if_pos q]
    rw [r100]
    by_cases q : gt hc 8 0 12 = 0
    · have q' : ¬ (gt hc 8 0 12 ≠ 0) := by simpa using q
      rw [if_neg q', if_neg q']
      obtain ⟨hr2, k2⟩ : ∃ hr2, hr2 = pt hr1 72 0 a ((w : Int) + 1) := ⟨_, rfl⟩
      have xr2 : zFx [72] [] hr1 hr2 := by rw [k2]; exact (zFx.rf hr1).p1 rfl
      have v72 : gt hr2 72 0 a = (w : Int) + 1 := by rw [k2]; simp [gt_pt]
      have X2 : RB B n S c sid b' k a cx hc1 hr2 := X1.fr (lc := []) (mc := []) (zFx.rf hc1) rfl (frrN hc1) (fun _ _ => rfl) xr2 rfl (fun j z => ⟨by rw [k2]; simp [gt_pt, z], xr2 73 j (by simp) (by simp) 0⟩)
      have RR := l_in X2 v72 (by rw [g11]; exact (y7.fr xh rfl xk rfl).fr (lc := []) (mc := []) (zFx.rf hc1) rfl xr2 rfl) w2 (by rw [g12]; exact q) (by rw [xr2 12 52 (by simp) (by simp) 0, g52, ← v1]; exact q) (by rw [g11, zjs.fr xh rfl]; exact w6 o16)
      refine ⟨_, hr2, rfl, by rw [k2], RR.up ?_⟩
      rw [xh 8 14 (by simp) (by decide) 0]; omega
    · rw [if_pos q, if_pos q]
      refine ⟨hc1, hr1, rfl, rfl, Or.inl ⟨n, S, sid, b', k, a, cx, ⟨X1, W1, fun v => ?_⟩, ?_⟩⟩
      · rw [g12] at v; exact absurd v q
      · rw [if_neg (by rw [g12]; exact q), xh 8 14 (by simp) (by decide) 0]; omega
