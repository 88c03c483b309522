/-! BLOCKS that end -/
theorem sp_of {B : Int} {n : Nat} {S c : Int} {sid : Int → Int} {b : Nat} {k a : Int} {cx : zK} {hc hr hc1 hr1 : zH} (X : RB B n S c sid b k a cx hc hr) (C : CR B n S c sid hc1 hr1) (F : RF hc1 hr1) (xc : zFx kEc mEc hc hc1) (xr : zFx kEr (mEr ++ [(12, 57)]) hr hr1) : SP B c hc1 hr1 := by
  obtain ⟨k1, k2, k3, k4, ⟨⟨q1, q2, q3, q4, q5, q6, q7, q8, q9, q10⟩, ⟨r1, r2, r3, r4, r5, r6, r7, r8, r9, r10, r11, r12, r13⟩⟩, k6⟩ := X
  obtain ⟨b1, b2, b3, b4, b5, b6, b7, b8⟩ := k3.bd
  have b9 := (b8 q9).2.1
  obtain ⟨p, hp⟩ : ∃ p : Nat, (p : Int) = b + k := ⟨(b + k).toNat, by omega⟩
  refine ⟨n, S, sid, p, C, k4, (k3.sk p hp).cg fun j _ _ => ⟨xr 68 j (by decide) (by simp) 0, xr 70 j (by decide) (by simp) 0⟩, F, ?_⟩
  rw [xc 8 7 (by decide) (by decide) 0, xr 12 25 (by decide) (by decide) 0, xc 8 14 (by decide) (by decide) 0, xr 12 55 (by decide) (by decide) 0, xc 8 16 (by decide) (by decide) 0, xr 12 58 (by decide) (by decide) 0, xr 12 44 (by decide) (by decide) 0, xc 8 15 (by decide) (by decide) 0, xr 12 59 (by decide) (by decide) 0]
  exact ⟨q3, by omega, by omega, b2, by omega, r1, r7, r10, r11, by omega, q10⟩
theorem m_es {B : Int} {n : Nat} {S c : Int} {sid : Int → Int} {b : Nat} {k a : Int} {cx : zK} {hc hr : zH} (X : RB B n S c sid b k a cx hc hr) (W : WY hc hr) (t70 : gt hr 70 0 (gt hr 12 0 25 - 1) = sid S) (t69 : gt hr 69 0 (gt hr 12 0 25 - 1) = gt hc 9 S 1) (t90 : gt hc 9 S 0 = gt hc 1 k 1) :
    ∃ hc' hr', (F_X8_endInnermost 0 hc = some (0, hc') ∧ F_X12_endScope 0 hr = some (0, hr') ∧ zFx kEc (mEc ++ [(8, 7), (8, 15)]) hc hc' ∧ FrN hc hc' ∧ zFx kEr (mEr ++ [(12, 25), (12, 57)]) hr hr' ∧ FrN hr hr' ∧ CR B n (S - 1) c sid hc' hr' ∧ RF hc' hr' ∧ WY hc' hr' ∧ gt hc' 8 0 7 = S - 1 ∧ gt hc' 8 0 15 = gt hc 8 0 15 + 1 ∧ gt hr' 12 0 25 = gt hr 12 0 25 - 1 ∧ gt hc 2 0 6 ≤ gt hc' 2 0 6 ∧ (gt hc' 8 0 12 = gt hc 8 0 12 ∨ gt hc' 8 0 12 = 3)) ∨
      (F_X8_endInnermost 0 hc = some (0, hc') ∧ F_X12_endScope 0 hr = some (0, hr') ∧ zFx kEc mEc hc hc' ∧ FrN hc hc' ∧ OV B c hc' hr' ∧ gt hr' 12 0 60 = 1) := by
  obtain ⟨x1, x2, x3, x4, x5, x6, x7, x8, x9, x10, x11, x12, x13, x14, x15, x16, x17, x18⟩ := X.at
  have C := X.1
  have a1 := C.1
  have a2 := C.2.1
  have a4 := C.2.2.2.1
  have K : LN n S (-1) sid hc hr := C.2.2.2.2.2.2.2.2.2.2.2.1
  have n160 := C.2.2.2.2.2.2.2.2.2.2.1.2.2.2.1
  have hn := C.2.2.2.2.2.2.2.2.2.2.1.2.1
  have o60 := X.2.2.2.2.1.1.2.2.2.2.2.2.1
  have r15 := X.2.2.2.2.1.2
  have hz := zF_i
  obtain ⟨hr0, h0⟩ : ∃ hr0, hr0 = pt hr 12 0 57 (wI (gt hr 12 0 57 + 1)) := ⟨_, rfl⟩
  have x0 : zFx [] [(12, 57)] hr hr0 := by rw [h0]; exact (zFx.rf hr).p2 rfl
  have n0 : FrN hr hr0 := by rw [h0]; exact frpN (frrN hr)
  have C0 : CR B n S c sid hc hr0 := C.fr (lc := []) (mc := []) (zFx.rf hc) rfl (frrN hc) x0 rfl
  have F0 : RF hc hr0 := X.2.1.fr (lc := []) (mc := []) (zFx.rf hc) rfl x0 rfl
  have W0 : WY hc hr0 := W.fr (lc := []) (mc := []) (zFx.rf hc) rfl (Int.le_refl _) x0 rfl
  have y25 : gt hr0 12 0 25 = gt hr 12 0 25 := x0 12 25 (by simp) (by decide) 0
  have y67 : gt hr0 12 0 67 = a := (x0 12 67 (by simp) (by decide) 0).trans x3
  have sb : 0 ≤ S ∧ S < 91 := by omega
  have pb : 0 ≤ gt hr 12 0 25 - 1 ∧ gt hr 12 0 25 - 1 < 150 := by omega
  have rp : -1000000 ≤ gt hr 12 0 25 - 1 ∧ gt hr 12 0 25 - 1 ≤ 1000000 := by omega
  have zs := zSum_op K
  have K0 : LN n S (-1) sid hc hr0 := C0.2.2.2.2.2.2.2.2.2.2.2.1
  have zs0 := zSum_op K0
  obtain ⟨hc', hr', f1, f2, f3⟩ := m_es1 (ac := gt hc 1 k 1) (ln := gt hc 9 S 1) x9 X.2.2.2.1 (hc0 := hc) (hr0 := hr0) (fun hc1 hr1 g1 g2 g3 g4 g5 g6 => by
    obtain ⟨_, hr2, _, _, _, u2, _, _, u5, _⟩ := (sp_of X g1 g2 g3 ((x0.wk rfl rfl).tr (g5.wk rfl rfl))).go
    exact ⟨hr2, u2, u5⟩) ⟨t90, rfl⟩ (by rw [y67]; exact ⟨x1, x2⟩) (by rw [y67, x0 70 _ (by simp) (by simp) 0]; exact x4) (by rw [y25]; exact pb) (by rw [y25, x0 69 _ (by simp) (by simp) 0]; exact t69) (by rw [x0 12 60 (by simp) (by decide) 0]; exact o60) n zF zF 0 hc hr0 C0 F0 W0 (zFx.rf hc) (frrN hc) (zFx.rf hr0) (frrN hr0) zs0.2 (by omega) (by omega) (Int.le_refl 0) (by omega)
  have ec : F_X8_endInnermost 0 hc = F_X8_endInnermost_12 zF 0 S 0 hc := by
    unfold F_X8_endInnermost F_X8_endInnermost_0
    rw [if_pos (Int.le_refl 0), pc_8_6 a1, if_pos (Int.le_refl 0), x14, if_pos sb, (a4.2.1 S sb.1 sb.2).2]
  have er : F_X12_endScope 0 hr = F_X12_endScope_28 zF 0 (sid S) (gt hc 9 S 2) hr0 := by
    unfold F_X12_endScope F_X12_endScope_0
    rw [if_pos (Int.le_refl 0), pr_28 a2, if_pos (Int.le_refl 0), wI_s rp, if_pos pb, t70, ← h0, m_last n160 K0 X.2.2.2.1 C0.2.1 ((x0 12 34 (by simp) (by decide) 0).trans hn) x9 (Int.le_refl S)]
    rfl
  rcases f3 with ⟨g1, g2, g3, g4, g5, g6, g7, g8, g9, g10⟩ | ⟨g1, g2, g3, hr1, g4, g5, g6, g7, g8⟩
  · have w3 := g7.2.2.1
    have e7 : gt hc' 8 0 7 = S := (f1 8 7 (by decide) (by decide) 0).trans x14
    have e15 : gt hc' 8 0 15 = gt hc 8 0 15 := f1 8 15 (by decide) (by decide) 0
    have e60 : gt hr' 12 0 60 = 0 := (g3 12 60 (by decide) (by decide) 0).trans ((x0 12 60 (by simp) (by decide) 0).trans o60)
    have e25 : gt hr' 12 0 25 = gt hr 12 0 25 := (g3 12 25 (by decide) (by decide) 0).trans y25
    have r7 : -1000000 ≤ S - 1 ∧ S - 1 ≤ 1000000 := by omega
    have r15' : -1000000 ≤ gt hc 8 0 15 + 1 ∧ gt hc 8 0 15 + 1 ≤ 1000000 := by
      have := r15.2.2.2.2.2.2.2.2.2.1
      have := r15.2.2.2.2.2.2.2.2.2.2.1
      have := r15.2.2.2.2.2.2.2.2.2.2.2.1
      have := r15.2.2.1
      omega
    obtain ⟨hc2, h2⟩ : ∃ hc2, hc2 = pt (pt hc' 8 0 7 (S - 1)) 8 0 15 (gt hc 8 0 15 + 1) := ⟨_, rfl⟩
    obtain ⟨hr2, k2⟩ : ∃ hr2, hr2 = pt hr' 12 0 25 (gt hr 12 0 25 - 1) := ⟨_, rfl⟩
    have y1 : zFx [] [(8, 7), (8, 15)] hc' hc2 := by rw [h2]; exact ((zFx.rf hc').p2 rfl).p2 rfl
    have y2 : zFx [] [(12, 25)] hr' hr2 := by rw [k2]; exact (zFx.rf hr').p2 rfl
    have n1 : FrN hc' hc2 := by rw [h2]; exact frpN (frpN (frrN hc'))
    have n2 : FrN hr' hr2 := by rw [k2]; exact frpN (frrN hr')
    refine ⟨hc2, hr2, Or.inl ⟨?_, ?_, (f1.wk rfl rfl).tr (y1.wk rfl rfl), f2.tr n1, ((x0.wk rfl rfl).tr (g3.wk rfl rfl)).tr (y2.wk rfl rfl), (n0.tr g4).tr n2, (g5.dn x9 g8).fr y1 rfl n1 y2 rfl, g6.fr y1 rfl y2 rfl, g7.fr y1 rfl (by rw [y1 2 6 (by simp) (by decide) 0]; exact Int.le_refl _) y2 rfl, by rw [h2]; rfl, by rw [h2]; rfl, by rw [k2]; rfl, ?_, ?_⟩⟩
    · rw [ec, g1]
      unfold F_X8_endInnermost_63
      have e15' : gt (pt hc' 8 0 7 (S - 1)) 8 0 15 = gt hc 8 0 15 := e15
      rw [if_pos (Int.le_refl 0), if_neg (by omega), e7, if_neg (by omega), wI_s r7, e15', wI_s r15', h2]
    · rw [er, g2]
      unfold F_X12_endScope_139
      rw [if_pos (Int.le_refl 0), if_neg (by simpa using e60), e25, wI_s rp, k2]
    · rw [y1 2 6 (by simp) (by decide) 0]; exact g10
    · rw [y1 8 12 (by simp) (by decide) 0]; exact g9
  · refine ⟨hc', hr', Or.inr ⟨by rw [ec, g1], by rw [er, g2], f1, f2, ⟨g3, ?_, hr1, sp_of X g6 g7 f1 ((x0.wk rfl rfl).tr (g4.wk rfl rfl)), g8⟩, ?_⟩⟩
    · rw [f1 8 3 (by decide) (by decide) 0, x15]; exact x7
    · obtain ⟨_, hr3, _, _, _, u2, _, _, u5, _⟩ := (sp_of X g6 g7 f1 ((x0.wk rfl rfl).tr (g4.wk rfl rfl))).go
      rw [g8] at u2
      injection u2 with u2
      injection u2 with _ u2
      rw [u2]; exact u5
/-- a BLOCK is off -/
theorem RB.pop {B : Int} {n : Nat} {S c : Int} {sid : Int → Int} {b : Nat} {k a : Int} {cx cx' : zK} {hc hr : zH} (X : RB B n S c sid (b + 1) k a cx hc hr) (K : Stk hc hr sid b k S a cx') : RB B n S c sid b k a cx' (pt hc 8 0 5 b) (pt hr 12 0 25 (b + k)) := by
  have xc : zFx [] [(8, 5)] hc (pt hc 8 0 5 b) := (zFx.rf hc).p2 rfl
  have xr : zFx [] [(12, 25)] hr (pt hr 12 0 25 (b + k)) := (zFx.rf hr).p2 rfl
  obtain ⟨z1, z2, z3, z4, ⟨⟨p1, p2, p3, p4, p5, p6, p7, p8, p9, p10⟩, ⟨q1, q2, q3, q4, q5, q6, q7, q8, q9, q10, q11, q12, q13⟩⟩, z6⟩ := X
  refine ⟨z1.fr xc rfl (frpN (frrN hc)) xr rfl, z2.fr xc rfl xr rfl, K.fr xc rfl (fun i _ => xc 1 2 (by simp) (by decide) i) xr rfl (fun j _ => ⟨xr 72 j (by simp) (by simp) 0, xr 73 j (by simp) (by simp) 0⟩) (Int.le_refl _), z4, ⟨⟨p1, rfl, p3, rfl, p5, p6, p7, p8, p9, p10⟩, ⟨q1, q2, q3, q4, q5, q6, q7, q8, ?_, q10, q11, q12, q13⟩⟩, z6.fr xc rfl xr rfl⟩
  show gt hc 8 0 16 + b ≤ gt hc 8 0 14 + 1
  omega
theorem c_pop {h : zH} {b : Nat} (e : gt h 8 0 5 = (b : Int) + 1) (b90 : b < 100) : F_X8_pop 0 h = some (0, pt h 8 0 5 b) := by
  have r : -1000000 ≤ (b : Int) + 1 - 1 ∧ (b : Int) + 1 - 1 ≤ 1000000 := by omega
  unfold F_X8_pop F_X8_pop_0
  rw [if_pos (Int.le_refl 0), e, if_neg (by omega), wI_s r, show (b : Int) + 1 - 1 = b by omega]
/-- the BLOCK that is the latest -/
theorem RB.top {B : Int} {n : Nat} {S c : Int} {sid : Int → Int} {b : Nat} {k a : Int} {cx : zK} {hc hr : zH} (X : RB B n S c sid b k a cx hc hr) : ∃ b' : Nat, b = b' + 1 ∧
    ((gt hc 0 ((b' : Int) + 1) 0 = 17 ∧ EA hc hr sid (b' + k) k S ∧ a = b' + k - 1 ∧ cx = [] ∧ ∃ a' cx', EO hc hr (k - 1) a' cx' ∧ Stk hc hr sid b' (k - 1) (S - 1) a' cx') ∨
    (∃ (L M : Nat) (cx' : zK), cx = ((L : Int), (M : Int)) :: cx' ∧
      ((EB hc hr (b' + 1) (b' + k) k 12 L M cx' ∧ M = L ∧ ES hc hr sid (b' + k) k S L ∧ Stk hc hr sid b' k (S - 1) a cx') ∨
       (EB hc hr (b' + 1) (b' + k) k 11 L M cx' ∧ M = L ∧ EL hc hr (b' + 1) (b' + k) ∧ Stk hc hr sid b' k S a cx') ∨
       (EB hc hr (b' + 1) (b' + k) k 13 L M cx' ∧ ET hc hr (b' + 1) (b' + k) k M ∧ Stk hc hr sid b' k S a cx')))) := by
  have b1 := X.at.2.2.2.2.2.2.2.2.2.2.2.2.2.2.2.2.2
  obtain ⟨b', rfl⟩ : ∃ b', b = b' + 1 := ⟨b - 1, by omega⟩
  exact ⟨b', rfl, X.2.2.1⟩
/-- a SCOPE's BLOCK ends -/
theorem m_scope {B : Int} {n : Nat} {S c : Int} {sid : Int → Int} {b' : Nat} {k a : Int} {cx : zK} {hc hr : zH} {L M : Nat} (X : RB B n S c sid (b' + 1) k a (((L : Int), (M : Int)) :: cx) hc hr) (W : WY hc hr) (e1 : EB hc hr (b' + 1) (b' + k) k 12 L M cx) (e2 : ES hc hr sid (b' + k) k S L) (K : Stk hc hr sid b' k (S - 1) a cx) :
    ∃ hc' hr', (F_X8_endScopeBlock 0 k hc = (if gt hc' 8 0 12 ≠ 0 then some (0, hc') else some (0, pt hc' 1 k 2 (wI (gt hc' 1 k 2 + 1)))) ∧ F_X12_endScope 0 hr = some (0, hr') ∧ RB B n (S - 1) c sid b' k a cx hc' hr' ∧ WY hc' hr' ∧ gt hc' 1 k 2 = gt hc 1 k 2 ∧ gt hr' 72 0 a = gt hr 72 0 a ∧ zFx (0 :: kEc) (mEc ++ [(8, 5), (8, 7), (8, 15)]) hc hc' ∧ zFx kEr (mEr ++ [(12, 25), (12, 57)]) hr hr' ∧ (gt hc' 8 0 12 = gt hc 8 0 12 ∨ gt hc' 8 0 12 = 3)) ∨
      (F_X8_endScopeBlock 0 k hc = some (0, hc') ∧ F_X12_endScope 0 hr = some (0, hr') ∧ OV B c hc' hr' ∧ gt hr' 12 0 60 = 1) := by
  obtain ⟨x1, x2, x3, x4, x5, x6, x7, x8, x9, x10, x11, x12, x13, x14, x15, x16, x17, x18⟩ := X.at
  obtain ⟨z1, z2, z3, z4, ⟨⟨p1, p2, p3, p4, p5, p6, p7, p8, p9, p10⟩, ⟨q1, q2, q3, q4, q5, q6, q7, q8, q9, q10, q11, q12, q13⟩⟩, z6⟩ := id X
  have ep : gt hr 12 0 25 - 1 = b' + k := by rw [x13]; omega
  obtain ⟨w1, w2, w3, w4⟩ := e2
  obtain ⟨y1, y2, y3, y4, y5, y6, y7⟩ := e1
  have S1 : 1 ≤ S - 1 := (K.bd.2.2.2.2.2.2.2 x7).2.2
  rcases m_es X W (by rw [ep]; exact w2) (by rw [ep, y5, w4]) w3 with ⟨hc1, hr1, g⟩
  rcases g with ⟨g1, g2, g3, g4, g5, g6, g7, g8, g9, g10, g11, g12, g13, g14⟩ | ⟨g1, g2, g3, g4, g5, g6⟩
  · have e5 : gt hc1 8 0 5 = (b' : Int) + 1 := by rw [g3 8 5 (by decide) (by decide) 0, x16]; omega
    obtain ⟨hc', hh⟩ : ∃ hc', hc' = pt hc1 8 0 5 b' := ⟨_, rfl⟩
    have yc : zFx [] [(8, 5)] hc1 hc' := by rw [hh]; exact (zFx.rf hc1).p2 rfl
    have nc : FrN hc1 hc' := by rw [hh]; exact frpN (frrN hc1)
    have XC : zFx (0 :: kEc) (mEc ++ [(8, 5), (8, 7), (8, 15)]) hc hc' := (g3.wk rfl rfl).tr (yc.wk rfl rfl)
    have XR : zFx (0 :: kEr) (mEr ++ [(12, 25), (12, 57)]) hr hr1 := g5.wk rfl rfl
    have K1 : Stk hc' hr1 sid b' k (S - 1) a cx := K.fr (lc := kEc) (mc := mEc ++ [(8, 5), (8, 7), (8, 15)]) ((g3.wk rfl rfl).tr (yc.wk rfl rfl)) rfl (fun i _ => (yc 1 2 (by simp) (by decide) i).trans (g3 1 2 (by decide) (by decide) i)) g5 rfl (fun j _ => ⟨g5 72 j (by decide) (by simp) 0, g5 73 j (by decide) (by simp) 0⟩) (by rw [yc 2 6 (by simp) (by decide) 0]; exact g13)
    have e12 : gt hc' 8 0 12 = gt hc1 8 0 12 := yc 8 12 (by simp) (by decide) 0
    refine ⟨hc', hr1, Or.inl ⟨?_, g2, ⟨g7.fr yc rfl nc (zFx.rf (l := []) (m := []) hr1) rfl, g8.fr yc rfl (zFx.rf (l := []) (m := []) hr1) rfl, K1, z4.dn, ⟨⟨?_, ?_, ?_, ?_, ?_, ?_, ?_, p8, p9, ?_⟩, ?_⟩, z6.fr XC rfl XR rfl⟩, g9.fr yc rfl (by rw [yc 2 6 (by simp) (by decide) 0]; exact Int.le_refl _) (zFx.rf (l := []) (m := []) hr1) rfl, XC 1 2 (by decide) (by decide) k, g5 72 a (by decide) (by simp) 0, XC, g5, by rw [e12]; exact g14⟩⟩
    · unfold F_X8_endScopeBlock F_X8_endScopeBlock_0
      rw [if_pos (Int.le_refl 0), g1]
      simp only [zb]
      rw [c_pop e5 (by omega)]
      simp only []
      rw [← hh, if_pos (show 0 ≤ k by omega)]
    · rw [XC 8 3 (by decide) (by decide) 0]; exact p1
    · rw [hh]; rfl
    · rw [yc 8 7 (by simp) (by decide) 0]; exact g10
    · rw [g12]; exact ep
    · rw [g5 12 33 (by decide) (by decide) 0]; exact p5
    · rw [g5 12 67 (by decide) (by decide) 0]; exact p6
    · rw [g5 12 60 (by decide) (by decide) 0]; exact p7
    · rw [g5 12 59 (by decide) (by decide) 0]; exact p10
    · have v15 : gt hc' 8 0 15 = gt hc 8 0 15 + 1 := (yc 8 15 (by simp) (by decide) 0).trans g11
      rw [XC 8 14 (by decide) (by decide) 0, XC 8 16 (by decide) (by decide) 0, v15, g5 12 55 (by decide) (by decide) 0, g5 12 43 (by decide) (by decide) 0, g5 12 58 (by decide) (by decide) 0, g5 12 44 (by decide) (by decide) 0]
      refine ⟨q1, q2, q3, q4, q5, q6, q7, q8, by omega, by omega, by omega, q12, fun z => ?_, fun i i1 i2 => q13.2 i i1 (by omega)⟩
      have := z4 (S - 1) S (by omega) (by omega) (Int.le_refl S)
      have := q13.1 x9
      omega
  · have w12 : gt hc1 8 0 12 = 4 := g5.1
    have e5 : gt hc1 8 0 5 = (b' : Int) + 1 := by rw [g3 8 5 (by decide) (by decide) 0, x16]; omega
    have yc : zFx [] [(8, 5)] hc1 (pt hc1 8 0 5 b') := (zFx.rf hc1).p2 rfl
    obtain ⟨o1, o2, hrx, o3, o4⟩ := g5
    refine ⟨pt hc1 8 0 5 b', hr1, Or.inr ⟨?_, g2, ⟨o1, o2, hrx, o3.fr yc rfl (frpN (frrN hc1)) (zFx.rf (l := []) (m := []) hrx) rfl (fun _ _ _ => ⟨rfl, fun _ => rfl⟩), o4⟩, g6⟩⟩
    unfold F_X8_endScopeBlock F_X8_endScopeBlock_0
    rw [if_pos (Int.le_refl 0), g1]
    simp only [zb]
    rw [c_pop e5 (by omega)]
    simp only []
    have : gt (pt hc1 8 0 5 b') 8 0 12 = 4 := w12
    rw [this, if_pos (by decide)]
