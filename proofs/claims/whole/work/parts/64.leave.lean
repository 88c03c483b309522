/-! what leaves LOOP, TRY, SCOPE on a way out -/
theorem r_unw {hr : zH} {p op : Int} (a2 : PIr hr) (e25 : gt hr 12 0 25 - 1 = p) (pb : 0 ≤ p ∧ p < 150) (e68 : gt hr 68 0 p = op) (o : op = 12 ∨ op = 13) : F_X12_unwind 0 hr = if op = 12 then zb (F_X12_endScope 0 hr) (fun _ h => some (0, h)) else zb (F_X12_outOfTry 0 hr) (fun _ h => some (0, h)) := by
  have rp : -1000000 ≤ gt hr 12 0 25 - 1 ∧ gt hr 12 0 25 - 1 ≤ 1000000 := by omega
  unfold F_X12_unwind F_X12_unwind_0
  rw [if_pos (Int.le_refl 0), pr_26 a2, if_pos (Int.le_refl 0), wI_s rp, e25, if_pos pb, e68, if_neg (by omega)]
  rcases o with z | z
  · rw [if_pos z, if_pos z]
  · rw [if_neg (by omega), if_pos z, if_neg (by omega)]
theorem m_loop_out {B : Int} {n : Nat} {S c : Int} {sid : Int → Int} {b' : Nat} {k a : Int} {cx : zK} {hc hr : zH} {L M : Nat} (X : RB B n S c sid (b' + 1) k a (((L : Int), (M : Int)) :: cx) hc hr) (W : WY hc hr) (w0 : gt hc 8 0 12 ≠ 0) (e1 : EB hc hr (b' + 1) (b' + k) k 11 L M cx) (K : Stk hc hr sid b' k S a cx) :
    ∃ hc' hr', F_X8_leaveLoop 0 k ((b' : Int) + 1) hc = some (0, hc') ∧ F_X12_unwind 0 hr = some (0, hr') ∧ RES B c (2 * b' + 1 + 4 * (160 - gt hc 8 0 14)) hc' hr' := by
  obtain ⟨x1, x2, x3, x4, x5, x6, x7, x8, x9, x10, x11, x12, x13, x14, x15, x16, x17, x18⟩ := X.at
  have C := X.1
  have a2 := C.2.1
  have a4 := C.2.2.2.1
  have R := C.2.2.2.2.2.2.2.2.2.1
  obtain ⟨y1, y2, y3, y4, y5, y6, m, y7, y8, y9, y10, y11, y12⟩ := id e1
  have m40 := (y7.e R).2.1
  have ac0 := y7.1
  obtain ⟨w, mm, w1, w2, w3, w4, w5, w6, w7, w8, w9, w10⟩ := wo2 R a4 a2 y7 (by omega) y11
  obtain ⟨o16, nx⟩ := w7 (by rw [y6]; decide)
  obtain ⟨v1, v2, v3, v4⟩ := W
  have rw' : -1000000 ≤ (w : Int) + 1 ∧ (w : Int) + 1 ≤ 1000000 := by omega
  have ep : gt hr 12 0 25 - 1 = b' + k := by rw [x13]; omega
  have rp : -1000000 ≤ gt hr 12 0 25 - 1 ∧ gt hr 12 0 25 - 1 ≤ 1000000 := by omega
  have pb : 0 ≤ (b' : Int) + k ∧ (b' : Int) + k < 150 := by omega
  have X1 := X.pop K
  obtain ⟨hc1, h1⟩ : ∃ hc1, hc1 = pt hc 8 0 5 b' := ⟨_, rfl⟩
  obtain ⟨hr1, k1⟩ : ∃ hr1, hr1 = pt hr 12 0 25 (b' + k) := ⟨_, rfl⟩
  rw [← h1, ← k1] at X1
  have xh : zFx [] [(8, 5)] hc hc1 := by rw [h1]; exact (zFx.rf hc).p2 rfl
  have xk : zFx [] [(12, 25)] hr hr1 := by rw [k1]; exact (zFx.rf hr).p2 rfl
  have g12 : gt hc1 8 0 12 = gt hc 8 0 12 := xh 8 12 (by simp) (by decide) 0
  have g52 : gt hr1 12 0 52 = gt hr 12 0 52 := xk 12 52 (by simp) (by decide) 0
  have g11 : gt hc1 1 k 1 = gt hc 1 k 1 := xh 1 1 (by simp) (by decide) k
  have W1 : WY hc1 hr1 := WY.fr (show WY hc hr from ⟨v1, v2, v3, v4⟩) xh rfl (by rw [xh 2 6 (by simp) (by decide) 0]; exact Int.le_refl _) xk rfl
  have ec : F_X8_leaveLoop 0 k ((b' : Int) + 1) hc = if gt hc 8 0 12 ≠ 2 then some (0, hc1) else zb (F_X10_nextOf (gt hc 1 k 1 + 1) L (pt hc1 8 0 12 0)) (fun r6 h6 => some (0, pt h6 1 k 2 (wI (r6 + 1)))) := by
    have t10 : gt (pt hc1 8 0 12 0) 1 k 0 = gt hc 1 k 1 + 1 := (xh 1 0 (by simp) (by decide) k).trans x6
    have t01 : gt (pt hc1 8 0 12 0) 0 ((b' : Int) + 1) 1 = L := (xh 0 1 (by simp) (by decide) _).trans y4
    unfold F_X8_leaveLoop F_X8_leaveLoop_0
    rw [if_pos (Int.le_refl 0), c_pop (b := b') (by rw [x16]; omega) (by omega), ← h1]
    simp only [zb]
    rw [g12]
    by_cases q : gt hc 8 0 12 = 2
    · have q' : ¬ (gt hc 8 0 12 ≠ 2) := by simpa using q
      rw [if_neg q', if_neg q', if_pos (show 0 ≤ k by omega), if_pos (show 0 ≤ (b' : Int) + 1 by omega), t10, if_pos (show 0 ≤ gt hc 1 k 1 + 1 by omega), t01]
    · rw [if_pos q, if_pos q]
  have er : F_X12_unwind 0 hr = if gt hc 8 0 12 ≠ 2 then some (0, hr1) else zb (F_X12_endOf 0 (gt hc 1 k 1) L (pt hr1 12 0 52 0)) (fun r9 h9 => zb (F_X12_goTo 0 (wI (r9 + 1)) h9) (fun r10 h10 => some (0, h10))) := by
    unfold F_X12_unwind F_X12_unwind_0
    rw [if_pos (Int.le_refl 0), pr_26 a2, if_pos (Int.le_refl 0), wI_s rp, ep, if_pos pb, y3, if_pos rfl, ← k1, g52, ← v1]
    have t28 : gt (pt hr1 12 0 52 0) 12 0 28 = 0 := (xk 12 28 (by simp) (by decide) 0).trans (pr_28 a2)
    have t67 : gt (pt hr1 12 0 52 0) 12 0 67 = a := (xk 12 67 (by simp) (by decide) 0).trans x3
    have t27 : gt (pt hr1 12 0 52 0) 12 0 27 = 0 := (xk 12 27 (by simp) (by decide) 0).trans (pr_27 a2)
    have t70 : gt (pt hr1 12 0 52 0) 70 0 a = gt hc 1 k 1 := (xk 70 a (by simp) (by simp) 0).trans x4
    have t69 : gt (pt hr1 12 0 52 0) 69 0 (b' + k) = L := (xk 69 _ (by simp) (by simp) 0).trans y5
    by_cases q : gt hc 8 0 12 = 2
    · have q' : ¬ (gt hc 8 0 12 ≠ 2) := by simpa using q
      rw [if_neg q', if_neg q', t28, if_pos (Int.le_refl 0), t67, if_pos ⟨x1, x2⟩, t27, if_pos (Int.le_refl 0), t70, t69]
    · rw [if_pos q, if_pos q]
  rw [ec, er]
  by_cases q : gt hc 8 0 12 = 2
  · have q' : ¬ (gt hc 8 0 12 ≠ 2) := by simpa using q
    rw [if_neg q', if_neg q']
    obtain ⟨hc2, h2⟩ : ∃ hc2, hc2 = pt hc1 8 0 12 0 := ⟨_, rfl⟩
    obtain ⟨hr2, k2⟩ : ∃ hr2, hr2 = pt (pt hr1 12 0 52 0) 72 0 a ((w : Int) + 1) := ⟨_, rfl⟩
    have z1 : zFx [] [(8, 12)] hc1 hc2 := by rw [h2]; exact (zFx.rf hc1).p2 rfl
    have z2 : zFx [72] [(12, 52)] hr1 hr2 := by rw [k2]; exact ((zFx.rf hr1).p2 rfl).p1 rfl
    have zr : zFx [] [(12, 52)] hr1 (pt hr1 12 0 52 0) := (zFx.rf hr1).p2 rfl
    have v72 : gt hr2 72 0 a = (w : Int) + 1 := by rw [k2]; simp [gt_pt]
    have X2 : RB B n S c sid b' k a cx hc2 hr2 := X1.fr z1 rfl (by rw [h2]; exact frpN (frrN hc1)) (fun i _ => z1 1 2 (by simp) (by decide) i) z2 rfl (fun j z => ⟨by rw [k2]; simp [gt_pt, z], z2 73 j (by simp) (by simp) 0⟩)
    have g11' : gt hc2 1 k 1 = gt hc 1 k 1 := (z1 1 1 (by simp) (by decide) k).trans g11
    have y72 : zS hc1 hr1 (gt hc 1 k 1) m := y7.fr xh rfl xk rfl
    have RR := l_in X2 v72 (by rw [g11']; exact y72.fr z1 rfl z2 rfl) w2 (by rw [h2]; rfl) (by rw [k2]; rfl) (by rw [g11', zjs.fr z1 rfl, zjs.fr xh rfl]; exact w6 o16)
    have nx2 : F_X10_nextOf (gt hc 1 k 1 + 1) L hc2 = some ((w : Int), hc2) := by
      have R2 : RSx hc2 hr := (R.fr xh rfl (zFx.rf (l := []) (m := []) hr) rfl).fr z1 rfl (zFx.rf (l := []) (m := []) hr) rfl
      have s4 : SC hc2 := X2.1.2.2.2.1
      have yy : zS hc2 hr (gt hc 1 k 1) m := (y7.fr xh rfl (zFx.rf (l := []) (m := []) hr) rfl).fr z1 rfl (zFx.rf (l := []) (m := []) hr) rfl
      obtain ⟨w', mm', s1, s2, s3, s5, s6, s7, s8, s9, s10, s11⟩ := wo2 R2 s4 a2 yy (show L < m by omega) (by rw [zjs.fr z1 rfl, zjs.fr xh rfl]; exact y11)
      have e43 : ∀ i, gt hc2 43 i = gt hc 43 i := fun i => by funext j; exact (z1 43 j (by simp) (by simp) i).trans (xh 43 j (by simp) (by simp) i)
      rw [e43] at s3 s6 s7 s8 s10 s11
      obtain ⟨t1, t2⟩ := s8 (by rw [y6]; decide)
      have s11 := s11 t1
      rw [w10 o16] at s11
      have ew : (w : Int) = w' := by injection s11 with s11; injection s11
      rw [t2, ← ew]
    have eo2 : F_X12_endOf 0 (gt hc 1 k 1) L (pt hr1 12 0 52 0) = some ((w : Int), pt hr1 12 0 52 0) := by
      obtain ⟨hr3, k3⟩ : ∃ hr3, hr3 = pt hr1 12 0 52 0 := ⟨_, rfl⟩
      rw [← k3] at zr ⊢
      have xx : zFx [] [(12, 25), (12, 52)] hr hr3 := (xk.wk rfl rfl).tr (zr.wk rfl rfl)
      obtain ⟨w', mm', s1, s2, s3, s5, s6, s7, s8, s9, s10, s11⟩ := wo2 (R.fr (lc := []) (mc := []) (zFx.rf hc) rfl xx rfl) a4 (a2.fr xx rfl) (y7.fr (lc := []) (mc := []) (zFx.rf hc) rfl xx rfl) (show L < m by omega) y11
      rw [w8] at s9
      have ew : (w : Int) = w' := by injection s9 with s9; injection s9
      have ew' : w' = w := by omega
      rw [ew'] at s11
      exact s11 o16
    refine ⟨pt hc2 1 k 2 ((w : Int) + 1), hr2, ?_, ?_, RR.up (by rw [z1 8 14 (by simp) (by decide) 0, xh 8 14 (by simp) (by decide) 0]; omega)⟩
    · rw [← h2, nx2]
      simp only [zb]
      rw [wI_s rw']
    · rw [eo2]
      simp only [zb]
      rw [wI_s rw', s_goTo (a := a) ((a2.fr xk rfl).fr zr rfl) ((xk 12 67 (by simp) (by decide) 0).trans x3) x1 x2, k2]
  · rw [if_pos q, if_pos q]
    refine ⟨hc1, hr1, rfl, rfl, Or.inl ⟨n, S, sid, b', k, a, cx, ⟨X1, W1, fun v => by rw [g12] at v; exact absurd v w0⟩, ?_⟩⟩
    rw [if_neg (by rw [g12]; exact w0), xh 8 14 (by simp) (by decide) 0]; omega
/-- a LAST WAY is left, something else on its way -/
theorem m_last_out {B : Int} {n : Nat} {S c : Int} {sid : Int → Int} {b' : Nat} {k a : Int} {cx : zK} {hc hr : zH} {L M : Nat} (X : RB B n S c sid (b' + 1) k a (((L : Int), (M : Int)) :: cx) hc hr) (W : WY hc hr) (w0 : gt hc 8 0 12 ≠ 0) (e1 : EB hc hr (b' + 1) (b' + k) k 13 L M cx) (e2 : ET hc hr (b' + 1) (b' + k) k M) (K : Stk hc hr sid b' k S a cx) (ph : gt hc 0 ((b' : Int) + 1) 3 = 2) :
    ∃ hc' hr', F_X8_leaveTry 0 k ((b' : Int) + 1) hc = some (0, hc') ∧ F_X12_outOfTry 0 hr = some (0, hr') ∧ RES B c (2 * b' + 1 + 4 * (160 - gt hc 8 0 14)) hc' hr' := by
  obtain ⟨x1, x2, x3, x4, x5, x6, x7, x8, x9, x10, x11, x12, x13, x14, x15, x16, x17, x18⟩ := X.at
  have C := X.1
  have F := X.2.1
  have a1 := C.1
  have a2 := C.2.1
  obtain ⟨y1, y2, y3, y4, y5, y6, m, y7, y8, y9, y10, y11, y12⟩ := id e1
  obtain ⟨t1, t2, t3, t4, t5⟩ := e2
  obtain ⟨s1, s2, s3, s4⟩ := t5 ph
  obtain ⟨v1, v2, v3, v4⟩ := id W
  obtain ⟨o1, o2, o3, o4⟩ := F
  have rqq := X.2.2.2.2.1.2
  have ep : gt hr 12 0 25 - 1 = b' + k := by rw [x13]; omega
  have rp : -1000000 ≤ gt hr 12 0 25 - 1 ∧ gt hr 12 0 25 - 1 ≤ 1000000 := by omega
  have pb : 0 ≤ (b' : Int) + k ∧ (b' : Int) + k < 150 := by omega
  have ro : -1000000 ≤ gt hc 8 0 16 + 1 ∧ gt hc 8 0 16 + 1 ≤ 1000000 := by have := rqq.2.2.2.2.2.2.2.1; have := rqq.2.2.2.2.2.2.2.2.1; have := rqq.2.2.1; omega
  -- what is done, and the BLOCK off
  have fin : ∀ (hc1 hr1 : zH), zFx [26] [(8, 16)] hc hc1 → FrN hc hc1 → zFx [88] [(12, 58)] hr hr1 → RB B n S c sid b' k a cx (pt hc1 8 0 5 b') (pt hr1 12 0 25 (b' + k)) → F_X8_leaveLastWay 0 ((b' : Int) + 1) hc = F_X8_leaveLastWay_44 0 hc1 → F_X12_outOfTry 0 hr = F_X12_outOfTry_73 0 hr1 → ∃ hc' hr', F_X8_leaveTry 0 k ((b' : Int) + 1) hc = some (0, hc') ∧ F_X12_outOfTry 0 hr = some (0, hr') ∧ RES B c (2 * b' + 1 + 4 * (160 - gt hc 8 0 14)) hc' hr' := fun hc1 hr1 g1 g2 g3 g4 g5 g6 => by
    have f5 : gt hc1 8 0 5 = (b' : Int) + 1 := by rw [g1 8 5 (by simp) (by decide) 0, x16]; omega
    have f25 : gt hr1 12 0 25 - 1 = b' + k := by rw [g3 12 25 (by simp) (by decide) 0]; exact ep
    have rp1 : -1000000 ≤ gt hr1 12 0 25 - 1 ∧ gt hr1 12 0 25 - 1 ≤ 1000000 := by omega
    have j1 : zFx [] [(8, 5)] hc1 (pt hc1 8 0 5 b') := (zFx.rf hc1).p2 rfl
    have j2 : zFx [] [(12, 25)] hr1 (pt hr1 12 0 25 (b' + k)) := (zFx.rf hr1).p2 rfl
    have W1 : WY hc1 hr1 := W.fr g1 rfl (by rw [g1 2 6 (by simp) (by decide) 0]; exact Int.le_refl _) g3 rfl
    have e12 : gt (pt hc1 8 0 5 b') 8 0 12 = gt hc 8 0 12 := g1 8 12 (by simp) (by decide) 0
    refine ⟨pt hc1 8 0 5 b', pt hr1 12 0 25 (b' + k), ?_, ?_, Or.inl ⟨n, S, sid, b', k, a, cx, ⟨g4, W1.fr j1 rfl (Int.le_refl _) j2 rfl, fun v => by rw [e12] at v; exact absurd v w0⟩, ?_⟩⟩
    · unfold F_X8_leaveTry F_X8_leaveTry_0
      rw [if_pos (show 0 ≤ (b' : Int) + 1 by omega), if_neg (by simpa using ph), if_pos (Int.le_refl 0), g5]
      unfold F_X8_leaveLastWay_44
      rw [if_pos (Int.le_refl 0), c_pop f5 (by omega)]
      rfl
    · rw [g6]
      unfold F_X12_outOfTry_73
      rw [if_pos (Int.le_refl 0), wI_s rp1, f25]
    · rw [if_neg (by rw [e12]; exact w0)]
      have : gt (pt hc1 8 0 5 b') 8 0 14 = gt hc 8 0 14 := g1 8 14 (by simp) (by decide) 0
      rw [this]; omega
  have base : ∀ (hc1 hr1 : zH), zFx [26] [] hc hc1 → FrN hc hc1 → zFx [88] [] hr hr1 → RF hc1 hr1 → RB B n S c sid (b' + 1) k a (((L : Int), (M : Int)) :: cx) hc1 hr1 := fun hc1 hr1 g1 g2 g3 g4 => X.mk (C.fr g1 rfl g2 g3 rfl) g4 g1 rfl (fun i _ => g1 1 2 (by simp) (by simp) i) g3 rfl (fun j _ => ⟨g3 72 j (by simp) (by simp) 0, g3 73 j (by simp) (by simp) 0⟩) (by rw [g1 2 6 (by simp) (by simp) 0]; exact Int.le_refl _)
  have cl : F_X8_leaveLastWay 0 ((b' : Int) + 1) hc = if gt hc 0 ((b' : Int) + 1) 5 ≠ 3 then F_X8_leaveLastWay_44 0 hc else if gt hc 8 0 12 ≠ 3 then F_X8_leaveLastWay_44 0 (pt hc 8 0 16 (gt hc 8 0 16 + 1)) else zb (F_X2_suppress 0 (gt hc 0 ((b' : Int) + 1) 6) (gt hc 8 0 13) hc) (fun r5 h5 => F_X8_leaveLastWay_44 0 h5) := by
    unfold F_X8_leaveLastWay F_X8_leaveLastWay_0
    rw [if_pos (show 0 ≤ (b' : Int) + 1 by omega), if_pos (Int.le_refl 0), wI_s ro, pc_8_10 a1, if_pos (Int.le_refl 0)]
  have rl : F_X12_outOfTry 0 hr = if gt hc 0 ((b' : Int) + 1) 5 ≠ 3 then F_X12_outOfTry_73 0 hr else if gt hc 8 0 12 ≠ 3 then F_X12_outOfTry_73 0 (pt hr 12 0 58 (gt hc 8 0 16 + 1)) else if 0 ≤ gt hr 73 0 (b' + k) ∧ gt hr 73 0 (b' + k) < 16 then F_X12_outOfTry_73 0 (pt hr 88 0 (gt hr 73 0 (b' + k)) (gt hr 12 0 53)) else none := by
    unfold F_X12_outOfTry F_X12_outOfTry_0
    rw [if_pos (Int.le_refl 0), pr_28 a2, if_pos (Int.le_refl 0), x3, if_pos ⟨x1, x2⟩, wI_s rp, ep, if_pos pb, ← t1, if_neg (by simpa using ph), pr_29 a2, if_pos (Int.le_refl 0), ← s1, ← v1, ← rqq.2.2.2.2.2.2.1, wI_s ro, pr_31 a2, if_pos (Int.le_refl 0), pr_51 a2, if_pos (Int.le_refl 0)]
  have Kt : ∀ (hc1 hr1 : zH), zFx [26] [(8, 16)] hc hc1 → zFx [88] [(12, 58)] hr hr1 → Stk hc1 hr1 sid b' k S a cx := fun hc1 hr1 g1 g3 => K.fr g1 rfl (fun i _ => g1 1 2 (by simp) (by decide) i) g3 rfl (fun j _ => ⟨g3 72 j (by simp) (by simp) 0, g3 73 j (by simp) (by simp) 0⟩) (by rw [g1 2 6 (by simp) (by decide) 0]; exact Int.le_refl _)
  by_cases k3 : gt hc 0 ((b' : Int) + 1) 5 = 3
  · have k3' : ¬ (gt hc 0 ((b' : Int) + 1) 5 ≠ 3) := by simpa using k3
    rw [if_neg k3'] at cl rl
    obtain ⟨u1, u2, u3⟩ := s4 k3
    by_cases q3 : gt hc 8 0 12 = 3
    · have q3' : ¬ (gt hc 8 0 12 ≠ 3) := by simpa using q3
      rw [if_neg q3'] at cl rl
      obtain ⟨n1, n2, n3⟩ := v4 q3
      obtain ⟨f, hf⟩ : ∃ f, f = gt hc 0 ((b' : Int) + 1) 6 := ⟨_, rfl⟩
      rw [← hf] at cl u1 u2 u3
      rw [← u1, if_pos (by omega)] at rl
      obtain ⟨hc1, h1⟩ : ∃ hc1, hc1 = pt hc 26 0 f (gt hc 8 0 13) := ⟨_, rfl⟩
      obtain ⟨hr1, k1⟩ : ∃ hr1, hr1 = pt hr 88 0 f (gt hr 12 0 53) := ⟨_, rfl⟩
      have g1 : zFx [26] [] hc hc1 := by rw [h1]; exact (zFx.rf hc).p1 rfl
      have g2 : FrN hc hc1 := by rw [h1]; exact frpN (frrN hc)
      have g3 : zFx [88] [] hr hr1 := by rw [k1]; exact (zFx.rf hr).p1 rfl
      have fb : 0 ≤ f ∧ f < 16 := by omega
      have es : F_X2_suppress 0 f (gt hc 8 0 13) hc = some (0, hc1) := by
        unfold F_X2_suppress F_X2_suppress_0
        rw [if_pos (Int.le_refl 0), s_within, if_pos ⟨u2, u3⟩]
        simp only [zb]
        rw [if_neg (by decide), pc_2_5 a1, if_pos (Int.le_refl 0), if_pos fb, h1]
      rw [es] at cl
      have F1 : RF hc1 hr1 := by
        rw [h1, k1]
        refine ⟨o1, o2, o3, fun j j0 j1 => ?_⟩
        obtain ⟨p1, p2, p3, p4, p5, p6, p7⟩ := o4 j j0 j1
        refine ⟨p1, p2, p3, p4, p5, ?_, p7⟩
        by_cases y : j = f
        · simp [gt_pt, y, n1]
        · simp [gt_pt, y, p6]
      have g1' : zFx [26] [(8, 16)] hc hc1 := g1.wk rfl rfl
      have g3' : zFx [88] [(12, 58)] hr hr1 := g3.wk rfl rfl
      exact fin hc1 hr1 g1' g2 g3' ((base hc1 hr1 g1 g2 g3 F1).pop (Kt hc1 hr1 g1' g3')) cl (by rw [rl, k1])
    · rw [if_pos q3] at cl rl
      obtain ⟨hc1, h1⟩ : ∃ hc1, hc1 = pt hc 8 0 16 (gt hc 8 0 16 + 1) := ⟨_, rfl⟩
      obtain ⟨hr1, k1⟩ : ∃ hr1, hr1 = pt hr 12 0 58 (gt hc 8 0 16 + 1) := ⟨_, rfl⟩
      have g1 : zFx [] [(8, 16)] hc hc1 := by rw [h1]; exact (zFx.rf hc).p2 rfl
      have g2 : FrN hc hc1 := by rw [h1]; exact frpN (frrN hc)
      have g3 : zFx [] [(12, 58)] hr hr1 := by rw [k1]; exact (zFx.rf hr).p2 rfl
      have g1' : zFx [26] [(8, 16)] hc hc1 := g1.wk rfl rfl
      have g3' : zFx [88] [(12, 58)] hr hr1 := g3.wk rfl rfl
      refine fin hc1 hr1 g1' g2 g3' ?_ (by rw [cl, h1]) (by rw [rl, k1])
      have j1 : zFx [] [(8, 5), (8, 16)] hc (pt hc1 8 0 5 b') := (g1.wk rfl rfl : zFx [] [(8, 5), (8, 16)] hc hc1).p2 rfl
      have j2 : zFx [] [(12, 25), (12, 58)] hr (pt hr1 12 0 25 (b' + k)) := (g3.wk rfl rfl : zFx [] [(12, 25), (12, 58)] hr hr1).p2 rfl
      obtain ⟨z1, z2, z3, z4, ⟨⟨p1, p2, p3, p4, p5, p6, p7, p8, p9, p10⟩, ⟨q1, q2, q3, q4, q5, q6, q7, q8, q9, q10, q11, q12, q13⟩⟩, z6⟩ := X
      refine ⟨z1.fr j1 rfl (frpN g2) j2 rfl, z2.fr j1 rfl j2 rfl, K.fr j1 rfl (fun i _ => j1 1 2 (by simp) (by decide) i) j2 rfl (fun j _ => ⟨j2 72 j (by simp) (by simp) 0, j2 73 j (by simp) (by simp) 0⟩) (by rw [j1 2 6 (by simp) (by decide) 0]; exact Int.le_refl _), z4, ⟨⟨by rw [j1 8 3 (by simp) (by decide) 0]; exact p1, rfl, by rw [j1 8 7 (by simp) (by decide) 0]; exact p3, rfl, by rw [j2 12 33 (by simp) (by decide) 0]; exact p5, by rw [j2 12 67 (by simp) (by decide) 0]; exact p6, by rw [j2 12 60 (by simp) (by decide) 0]; exact p7, p8, p9, by rw [j2 12 59 (by simp) (by decide) 0]; exact p10⟩, ?_⟩, z6.fr j1 rfl j2 rfl⟩
      have v16 : gt (pt hc1 8 0 5 b') 8 0 16 = gt hc 8 0 16 + 1 := by rw [h1]; rfl
      have v58 : gt (pt hr1 12 0 25 (b' + k)) 12 0 58 = gt hc 8 0 16 + 1 := by rw [k1]; rfl
      rw [j1 8 14 (by simp) (by decide) 0, j1 8 15 (by simp) (by decide) 0, v16, v58, j2 12 55 (by simp) (by decide) 0, j2 12 43 (by simp) (by decide) 0, j2 12 44 (by simp) (by decide) 0]
      exact ⟨q1, q2, q3, q4, q5, q6, rfl, by omega, by omega, q10, q11, q12, q13⟩
  · rw [if_pos k3] at cl rl
    exact fin hc hr (zFx.rf hc) (frrN hc) (zFx.rf hr) (X.pop K) cl rl
