/-! an ACT ends -/
theorem r_find {a : Int} : ∀ (f : Nat) (l : Int) (h : zH), PIr h → gt h 12 0 67 = l → l < 150 → a ≤ l → (∀ j, a < j → j ≤ l → gt h 68 0 j ≠ 17) → (a = -1 ∨ (0 ≤ a ∧ gt h 68 0 a = 17)) → l + 2 < f → ∃ h', F_X12_findAct_10 f 0 h = some (0, h') ∧ gt h' 12 0 67 = a ∧ zFx [] [(12, 67)] h h'
  | 0, l, h, _, _, _, _, _, _, hf => by omega
  | f + 1, l, h, a2, e, l1, al, H, A, hf => by
    show ∃ h', F_X12_findAct_10b (F_X12_findAct_10 f) 0 h = some (0, h') ∧ _
    unfold F_X12_findAct_10b
    rw [if_pos (Int.le_refl 0), e]
    by_cases c : l < 0
    · rw [if_pos c]
      exact ⟨h, rfl, by omega, zFx.rf h⟩
    · rw [if_neg c, pr_26 a2, if_pos (Int.le_refl 0), if_pos ⟨by omega, l1⟩]
      by_cases d : gt h 68 0 l = 17
      · rw [if_pos d]
        have : a = l := by
          by_cases y : a = l
          · exact y
          · exact absurd d (H l (by omega) (Int.le_refl l))
        exact ⟨h, rfl, by omega, zFx.rf h⟩
      · have rl : -1000000 ≤ l - 1 ∧ l - 1 ≤ 1000000 := by omega
        have ne : a ≠ l := fun z => by
          rcases A with y | y
          · omega
          · rw [z] at y; exact d y.2
        have x1 : zFx [] [(12, 67)] h (pt h 12 0 67 (l - 1)) := (zFx.rf h).p2 rfl
        obtain ⟨h', g1, g2, g3⟩ := r_find (a := a) f (l - 1) (pt h 12 0 67 (l - 1)) (a2.fr x1 (by decide)) rfl (by omega) (by omega) (fun j j0 j1 => H j j0 (by omega)) A (by omega)
        exact ⟨h', by rw [if_neg d, wI_s rl]; exact g1, g2, x1.tr g3⟩
/-- the RUN is at its end -/
def EN (B c : Int) (hc hr : zH) : Prop := ∃ (n : Nat) (sid : Int → Int), CR B n 0 c sid hc hr ∧ RF hc hr ∧ gt hc 8 0 3 = 0 ∧ gt hr 12 0 60 = 1 ∧ gt hc 8 0 14 = gt hr 12 0 55 ∧ gt hc 8 0 16 = gt hr 12 0 58 ∧ gt hr 12 0 44 = gt hc 8 0 15 ∧ gt hc 8 0 12 ≠ 4 ∧ gt hr 12 0 54 = (if gt hc 8 0 12 = 3 then 1 else 0) ∧ gt hr 12 0 59 = (if gt hc 8 0 12 = 3 then gt hc 8 0 13 else -1)
theorem m_act_out {B : Int} {n : Nat} {S c : Int} {sid : Int → Int} {b' : Nat} {k a a' : Int} {cx' : zK} {hc hr : zH} (X : RB B n S c sid (b' + 1) k a [] hc hr) (W : WY hc hr) (w0 : gt hc 8 0 12 ≠ 0) (e1 : EA hc hr sid (b' + k) k S) (ea : a = b' + k - 1) (O : EO hc hr (k - 1) a' cx') (K : Stk hc hr sid b' (k - 1) (S - 1) a' cx') :
    ∃ hc' hr1, F_X8_leaveAct 0 hc = some (0, hc') ∧ F_X12_unwind 0 hr = some (0, hr1) ∧ ((OV B c hc' hr1 ∧ gt hr1 12 0 60 = 1) ∨ (gt hr1 12 0 60 = 0 ∧ gt hr1 12 0 52 ≠ 0 ∧ ∃ hr', F_X12_unwind 0 hr1 = some (0, hr') ∧ (RES B c (2 * b' + 1 + 4 * (160 - gt hc 8 0 14)) hc' hr' ∨ EN B c hc' hr'))) := by
  obtain ⟨x1, x2, x3, x4, x5, x6, x7, x8, x9, x10, x11, x12, x13, x14, x15, x16, x17, x18⟩ := X.at
  obtain ⟨z1, z2, z3, z4, ⟨⟨p1, p2, p3, p4, p5, p6, p7, p8, p9, p10⟩, ⟨q1, q2, q3, q4, q5, q6, q7, q8, q9, q10, q11, q12, q13⟩⟩, z6⟩ := id X
  obtain ⟨y1, y2, y3, y4, y5, y6, y7, y8, y9, y10, m, y11⟩ := e1
  have a1 := z1.1
  have a2 := z1.2.1
  have a4 := z1.2.2.2.1
  have hz := zF_i
  have ep : gt hr 12 0 25 - 1 = b' + k := by rw [x13]; omega
  have pb : 0 ≤ (b' : Int) + k ∧ (b' : Int) + k < 150 := by omega
  have kd := K.bd
  have ur := r_unw a2 ep pb y5 (Or.inl rfl)
  rw [if_pos rfl] at ur
  obtain ⟨hc1, hr1, g⟩ := m_es X W (by rw [ep]; exact y7) (by rw [ep, y6, y9]) y8
  rcases g with ⟨g1, g2, g3, g4, g5, g6, g7, g8, g9, g10, g11, g12, g13, g14⟩ | ⟨g1, g2, g3, g4, g5, g6⟩
  · obtain ⟨v1, v2, v3, v4⟩ := id g9
    have w1 : gt hc1 8 0 12 ≠ 0 := by
      rcases g14 with z | z
      · rw [z]; exact w0
      · rw [z]; decide
    have d1 := g7.1
    have d2 := g7.2.1
    have d4 := g7.2.2.2.1
    have f5 : gt hc1 8 0 5 = (b' : Int) + 1 := by rw [g3 8 5 (by decide) (by decide) 0, x16]; omega
    have f3 : gt hc1 8 0 3 = k := (g3 8 3 (by decide) (by decide) 0).trans p1
    have rk : -1000000 ≤ k - 1 ∧ k - 1 ≤ 1000000 := by omega
    have kb : 0 ≤ k - 1 ∧ k - 1 < 11 := by omega
    have f12 : gt hc1 1 (k - 1) 2 = gt hc 1 (k - 1) 2 := g3 1 2 (by decide) (by decide) _
    -- the class's end
    obtain ⟨hcF, ec, xF, nF, v12, v13, v3', v5', vat, vat'⟩ : ∃ hcF, F_X8_leaveAct 0 hc = some (0, hcF) ∧ zFx [] [(1, 2), (8, 3), (8, 5), (8, 12)] hc1 hcF ∧ FrN hc1 hcF ∧ gt hcF 8 0 12 = (if gt hc1 8 0 12 = 1 then 0 else gt hc1 8 0 12) ∧ gt hcF 8 0 13 = gt hc1 8 0 13 ∧ gt hcF 8 0 3 = k - 1 ∧ gt hcF 8 0 5 = b' ∧ (gt hcF 1 (k - 1) 2 = if gt hc1 8 0 12 = 1 then wI (gt hc 1 (k - 1) 2 + 1) else gt hc 1 (k - 1) 2) ∧ ∀ i, i ≠ k - 1 → gt hcF 1 i 2 = gt hc1 1 i 2 := by
      have t3 : gt (pt hc1 8 0 5 b') 8 0 3 = k := f3
      by_cases z : gt hc1 8 0 12 = 1
      · refine ⟨pt (pt (pt (pt hc1 8 0 5 b') 8 0 3 (k - 1)) 8 0 12 0) 1 (k - 1) 2 (wI (gt hc 1 (k - 1) 2 + 1)), ?_, ((((zFx.rf hc1).p2 rfl).p2 rfl).p2 rfl).p2 rfl, frpN (frpN (frpN (frpN (frrN hc1)))), ?_, rfl, rfl, rfl, ?_, fun i q => by simp [gt_pt, q]⟩
        · unfold F_X8_leaveAct F_X8_leaveAct_0
          rw [if_pos (Int.le_refl 0), g1]
          simp only [zb, zl]
          have e2 : gt (pt (pt (pt hc1 8 0 5 b') 8 0 3 (k - 1)) 8 0 12 0) 8 0 2 = 0 := pc_8_2 d1
          have e3 : gt (pt (pt (pt hc1 8 0 5 b') 8 0 3 (k - 1)) 8 0 12 0) 8 0 3 = k - 1 := rfl
          have e39 : gt (pt (pt (pt hc1 8 0 5 b') 8 0 3 (k - 1)) 8 0 12 0) 39 0 (k - 1) = k - 1 := (d4.1 (k - 1) kb.1 kb.2).1
          have e12 : gt (pt (pt hc1 8 0 5 b') 8 0 3 (k - 1)) 8 0 12 = 1 := z
          have eat : gt (pt (pt (pt hc1 8 0 5 b') 8 0 3 (k - 1)) 8 0 12 0) 1 (k - 1) 2 = gt hc 1 (k - 1) 2 := f12
          rw [if_pos (by omega), c_pop f5 (by omega)]
          simp only []
          rw [t3, wI_s rk, e12, if_neg (by decide), e2, if_pos (Int.le_refl 0), e3, if_pos kb, e39, if_pos kb.1, eat]
        · rw [if_pos z]; rfl
        · rw [if_pos z]; simp [gt_pt]
      · refine ⟨pt (pt hc1 8 0 5 b') 8 0 3 (k - 1), ?_, ((zFx.rf hc1).p2 rfl).p2 rfl, frpN (frpN (frrN hc1)), ?_, rfl, rfl, rfl, ?_, fun i q => rfl⟩
        · unfold F_X8_leaveAct F_X8_leaveAct_0
          rw [if_pos (Int.le_refl 0), g1]
          simp only [zb]
          rw [if_pos (by omega), c_pop f5 (by omega)]
          simp only []
          have e12 : gt (pt (pt hc1 8 0 5 b') 8 0 3 (k - 1)) 8 0 12 = gt hc1 8 0 12 := rfl
          rw [t3, wI_s rk, e12, if_pos z]
        · rw [if_neg z]; rfl
        · rw [if_neg z]; exact f12
    -- the reference's
    have e60 : gt hr1 12 0 60 = 0 := (g5 12 60 (by decide) (by decide) 0).trans p7
    have e25 : gt hr1 12 0 25 = b' + k := by rw [g12]; exact ep
    have e33 : gt hr1 12 0 33 = k := (g5 12 33 (by decide) (by decide) 0).trans p5
    have f68 : ∀ j, gt hr1 68 0 j = gt hr 68 0 j := fun j => g5 68 j (by decide) (by simp) 0
    have ep1 : gt hr1 12 0 25 - 1 = b' + k - 1 := by rw [e25]
    have rp1 : -1000000 ≤ gt hr1 12 0 25 - 1 ∧ gt hr1 12 0 25 - 1 ≤ 1000000 := by omega
    have pb1 : 0 ≤ (b' : Int) + k - 1 ∧ (b' : Int) + k - 1 < 150 := by omega
    obtain ⟨h2, hh2⟩ : ∃ h2, h2 = pt (pt (pt hr1 12 0 25 (b' + k - 1)) 12 0 33 (k - 1)) 12 0 67 (b' + k - 1 - 1) := ⟨_, rfl⟩
    have x2' : zFx [] [(12, 25), (12, 33), (12, 67)] hr1 h2 := by rw [hh2]; exact (((zFx.rf hr1).p2 rfl).p2 rfl).p2 rfl
    have d22 : PIr h2 := d2.fr x2' rfl
    have A : a' = -1 ∨ (0 ≤ a' ∧ gt h2 68 0 a' = 17) := by
      by_cases k1 : k - 1 = 0
      · have b0 : b' = 0 := kd.2.2.2.2.2.2.1 k1
        subst b0
        exact Or.inl K.2.2.1
      · obtain ⟨c1, c2, c3, c4, c5⟩ := K.ac (by omega)
        exact Or.inr ⟨(kd.2.2.2.2.2.2.2 (by omega)).1, by rw [x2' 68 _ (by simp) (by simp) 0, f68]; exact c1⟩
    have H : ∀ j, a' < j → j ≤ (b' : Int) + k - 1 - 1 → gt h2 68 0 j ≠ 17 := fun j j0 j1 => by
      rw [x2' 68 _ (by simp) (by simp) 0, f68]
      by_cases k1 : k - 1 = 0
      · have b0 : b' = 0 := kd.2.2.2.2.2.2.1 k1
        subst b0
        have := K.2.2.1
        omega
      · obtain ⟨c1, c2, c3, c4, c5⟩ := K.ac (by omega)
        exact c5 j j0 (by omega)
    have al : a' ≤ (b' : Int) + k - 1 - 1 := by have := kd.2.2.2.2.1; omega
    obtain ⟨h3, u1, u2, u3⟩ := r_find (a := a') zF (b' + k - 1 - 1) h2 d22 (by rw [hh2]; rfl) (by omega) al H A (by omega)
    have x3' : zFx [] [(12, 25), (12, 33), (12, 67)] hr1 h3 := x2'.tr (u3.wk rfl rfl)
    have w25 : gt h3 12 0 25 = b' + k - 1 := by rw [u3 12 25 (by simp) (by decide) 0, hh2]; rfl
    have w33 : gt h3 12 0 33 = k - 1 := by rw [u3 12 33 (by simp) (by decide) 0, hh2]; rfl
    have w52 : gt h3 12 0 52 = gt hc1 8 0 12 := by rw [x3' 12 52 (by simp) (by decide) 0, v1]
    have ue : F_X12_unwind 0 hr1 = zb (F_X12_endAct 0 hr1) (fun r15 h15 => some (0, h15)) := by
      unfold F_X12_unwind F_X12_unwind_0
      have t68 : gt hr1 68 0 (b' + k - 1) = 17 := by rw [f68]; exact y3
      rw [if_pos (Int.le_refl 0), pr_26 d2, if_pos (Int.le_refl 0), wI_s rp1, ep1, if_pos pb1, t68, if_neg (by decide), if_neg (by decide), if_neg (by decide)]
    have rp2 : -1000000 ≤ (b' : Int) + k - 1 - 1 ∧ (b' : Int) + k - 1 - 1 ≤ 1000000 := by omega
    have ee : F_X12_endAct 0 hr1 = (if 0 ≤ a' then (if gt hc1 8 0 12 ≠ 1 then some (0, h3) else some (0, pt h3 12 0 52 0)) else (if gt hc1 8 0 12 ≠ 3 then some (0, pt (pt (pt h3 12 0 60 1) 12 0 54 0) 12 0 59 (-1)) else some (0, pt (pt (pt h3 12 0 60 1) 12 0 54 1) 12 0 59 (gt h3 12 0 53)))) := by
      have t33 : gt (pt hr1 12 0 25 (b' + k - 1)) 12 0 33 = k := e33
      have t25 : gt (pt (pt hr1 12 0 25 (b' + k - 1)) 12 0 33 (k - 1)) 12 0 25 = b' + k - 1 := rfl
      unfold F_X12_endAct F_X12_endAct_0 F_X12_findAct F_X12_findAct_0
      rw [if_pos (Int.le_refl 0), wI_s rp1, ep1, t33, wI_s rk]
      simp only [zl]
      rw [if_pos (Int.le_refl 0), t25, wI_s rp2, ← hh2, u1]
      simp only [zb]
      rw [u2, w52]
      have s1 : gt (pt h3 12 0 60 1) 12 0 52 = gt hc1 8 0 12 := w52
      have s2 : gt (pt (pt h3 12 0 60 1) 12 0 54 0) 12 0 52 = gt hc1 8 0 12 := w52
      have s3 : gt (pt (pt h3 12 0 60 1) 12 0 54 1) 12 0 52 = gt hc1 8 0 12 := w52
      have s4 : gt (pt (pt h3 12 0 60 1) 12 0 54 1) 12 0 53 = gt h3 12 0 53 := rfl
      rw [s1, s2, s3, s4]
      by_cases z : gt hc1 8 0 12 = 3
      · have z' : ¬ (gt hc1 8 0 12 ≠ 3) := by simpa using z
        rw [if_neg z', if_neg z', if_neg z']
      · rw [if_pos z, if_pos z, if_pos z]
    refine ⟨hcF, hr1, ec, by rw [ur, g2]; rfl, Or.inr ⟨e60, by rw [← v1]; exact w1, ?_⟩⟩
    by_cases k1 : k - 1 = 0
    · -- the RUN's end
      have b0 : b' = 0 := kd.2.2.2.2.2.2.1 k1
      subst b0
      have aN : a' = -1 := K.2.2.1
      have S0 : S - 1 = 0 := K.2.1
      rw [if_neg (by omega)] at ee
      rw [S0] at g7
      have fin : ∀ (vd ed : Int) (hrF : zH), hrF = pt (pt (pt h3 12 0 60 1) 12 0 54 vd) 12 0 59 ed → vd = (if gt hcF 8 0 12 = 3 then 1 else 0) → ed = (if gt hcF 8 0 12 = 3 then gt hcF 8 0 13 else -1) → EN B c hcF hrF := fun vd ed hrF hF hv he => by
        have xr : zFx [] [(12, 25), (12, 33), (12, 67), (12, 60), (12, 54), (12, 59)] hr1 hrF := by rw [hF]; exact (((x3'.wk rfl rfl : zFx [] [(12, 25), (12, 33), (12, 67), (12, 60), (12, 54), (12, 59)] hr1 h3).p2 rfl).p2 rfl).p2 rfl
        refine ⟨n, sid, g7.fr xF rfl nF xr rfl, g8.fr xF rfl xr rfl, v3'.trans k1, by rw [hF]; rfl, ?_, ?_, ?_, ?_, by rw [hF]; exact hv, by rw [hF]; exact he⟩
        · rw [xF 8 14 (by simp) (by decide) 0, xr 12 55 (by simp) (by decide) 0, g3 8 14 (by decide) (by decide) 0, g5 12 55 (by decide) (by decide) 0]; exact q1
        · rw [xF 8 16 (by simp) (by decide) 0, xr 12 58 (by simp) (by decide) 0, g3 8 16 (by decide) (by decide) 0, g5 12 58 (by decide) (by decide) 0]; exact q7
        · rw [xF 8 15 (by simp) (by decide) 0, xr 12 44 (by simp) (by decide) 0, g11, g5 12 44 (by decide) (by decide) 0]; omega
        · rw [v12]; split <;> omega
      by_cases z : gt hc1 8 0 12 = 3
      · have z' : ¬ (gt hc1 8 0 12 ≠ 3) := by simpa using z
        rw [if_neg z'] at ee
        have vF : gt hcF 8 0 12 = 3 := by rw [v12, if_neg (by omega)]; exact z
        refine ⟨_, by rw [ue, ee]; rfl, Or.inr (fin 1 (gt h3 12 0 53) _ rfl (by rw [if_pos vF]) ?_)⟩
        rw [if_pos vF, v13, x3' 12 53 (by simp) (by decide) 0]
        exact (v4 z).1.symm
      · rw [if_pos z] at ee
        have vF : gt hcF 8 0 12 ≠ 3 := by rw [v12]; split <;> omega
        exact ⟨_, by rw [ue, ee]; rfl, Or.inr (fin 0 (-1) _ rfl (by rw [if_neg vF]) (by rw [if_neg vF]))⟩
    · -- the outer ACT goes on
      obtain ⟨c1, c2, c3, c4, c5⟩ := K.ac (by omega)
      have a0 := (kd.2.2.2.2.2.2.2 (by omega)).1
      rw [if_pos a0] at ee
      obtain ⟨t, m', o1, o2, o3, o4, o5, o6⟩ : ∃ t m' : Nat, gt hc 1 (k - 1) 2 = t ∧ gt hr 72 0 a' = (t : Int) + 1 ∧ gt hr 73 0 a' = t ∧ zS hc hr (gt hc 1 (k - 1) 1) m' ∧ t < m' ∧ zjs hc (gt hc 1 (k - 1) 1) (t + 1) = cx' := by
        rcases O with z | z
        · exact absurd z k1
        · exact z
      have m40 := (o4.e z1.2.2.2.2.2.2.2.2.2.1).2.1
      have rt : -1000000 ≤ (t : Int) + 1 ∧ (t : Int) + 1 ≤ 1000000 := by omega
      obtain ⟨hrF, er, xrF, v52⟩ : ∃ hrF, F_X12_endAct 0 hr1 = some (0, hrF) ∧ zFx [] [(12, 25), (12, 33), (12, 52), (12, 67)] hr1 hrF ∧ (gt hrF 12 0 52 = gt hcF 8 0 12 ∧ gt hrF 12 0 25 = b' + k - 1 ∧ gt hrF 12 0 33 = k - 1 ∧ gt hrF 12 0 67 = a') := by
        by_cases z : gt hc1 8 0 12 = 1
        · have z' : ¬ (gt hc1 8 0 12 ≠ 1) := by simpa using z
          rw [if_neg z'] at ee
          refine ⟨_, ee, (x3'.wk rfl rfl : zFx [] [(12, 25), (12, 33), (12, 52), (12, 67)] hr1 h3).p2 rfl, ?_, w25, w33, u2⟩
          rw [v12, if_pos z]; rfl
        · rw [if_pos z] at ee
          refine ⟨_, ee, x3'.wk rfl rfl, ?_, w25, w33, u2⟩
          rw [v12, if_neg z]; exact w52
      have XC : zFx kEc (mEc ++ [(1, 2), (8, 3), (8, 5), (8, 7), (8, 15)]) hc hcF := (g3.wk rfl rfl).tr (xF.wk rfl rfl)
      have XR : zFx kEr (mEr ++ [(12, 25), (12, 33), (12, 57), (12, 67)]) hr hrF := (g5.wk rfl rfl).tr (xrF.wk rfl rfl)
      have f26 : gt hc 2 0 6 ≤ gt hcF 2 0 6 := by rw [xF 2 6 (by simp) (by decide) 0]; exact g13
      have KF : Stk hcF hrF sid b' (k - 1) (S - 1) a' cx' := K.fr (lc := kEc) (mc := mEc ++ [(1, 2), (8, 3), (8, 5), (8, 7), (8, 15)]) XC rfl (fun i z => (vat' i z).trans (g3 1 2 (by decide) (by decide) i)) XR rfl (fun j _ => ⟨XR 72 j (by decide) (by simp) 0, XR 73 j (by decide) (by simp) 0⟩) f26
      have W1 : WY hcF hrF := by
        refine ⟨v52.1.symm, ?_, ?_, fun z => ?_⟩
        · rw [v12]; split <;> omega
        · rw [v12]; split <;> omega
        · have z3 : gt hc1 8 0 12 = 3 := by
            rw [v12] at z
            by_cases y : gt hc1 8 0 12 = 1
            · rw [if_pos y] at z; cases z
            · rw [if_neg y] at z; exact z
          obtain ⟨s1, s2, s3⟩ := v4 z3
          rw [v13, xrF 12 53 (by simp) (by decide) 0, xF 2 6 (by simp) (by decide) 0]
          exact ⟨s1, s2, s3⟩
      refine ⟨hrF, by rw [ue, er]; rfl, Or.inl (Or.inl ⟨n, S - 1, sid, b', k - 1, a', cx', ⟨⟨g7.fr xF rfl nF xrF rfl, g8.fr xF rfl xrF rfl, KF, z4.dn, ⟨⟨v3', v5', ?_, ?_, v52.2.2.1, v52.2.2.2, ?_, by omega, by omega, ?_⟩, ?_⟩, ?_⟩, W1, fun z => ⟨t + 1, m', ?_, ?_, ?_, by omega, ?_⟩⟩, ?_⟩)⟩
      · rw [xF 8 7 (by simp) (by decide) 0]; exact g10
      · rw [v52.2.1]; omega
      · rw [xrF 12 60 (by simp) (by decide) 0]; exact e60
      · rw [XR 12 59 (by decide) (by decide) 0]; exact p10
      · have v15 : gt hcF 8 0 15 = gt hc 8 0 15 + 1 := (xF 8 15 (by simp) (by decide) 0).trans g11
        rw [XC 8 14 (by decide) (by decide) 0, XC 8 16 (by decide) (by decide) 0, v15, XR 12 55 (by decide) (by decide) 0, XR 12 43 (by decide) (by decide) 0, XR 12 58 (by decide) (by decide) 0, XR 12 44 (by decide) (by decide) 0]
        refine ⟨q1, q2, q3, q4, q5, q6, q7, q8, by omega, by omega, by omega, q12, fun z => ?_, fun i i1 i2 => q13.2 i i1 (by omega)⟩
        have := z4 (S - 1) S (by omega) (by omega) (Int.le_refl S)
        have := q13.1 x9
        omega
      · intro i s i1 i2 j0 j1
        rw [XC 20 s (by decide) (by simp) i, XR 74 _ (by decide) (by simp) 0]
        exact z6 i s i1 (by omega) j0 j1
      · have z1' : gt hc1 8 0 12 = 1 := by
          rw [v12] at z
          by_cases y : gt hc1 8 0 12 = 1
          · exact y
          · rw [if_neg y] at z; exact absurd z w1
        rw [vat, if_pos z1', o1, wI_s rt]; rfl
      · rw [XR 72 _ (by decide) (by simp) 0, o2]; rfl
      · rw [XC 1 1 (by decide) (by decide) (k - 1)]
        exact o4.fr XC rfl XR rfl
      · rw [XC 1 1 (by decide) (by decide) (k - 1), zjs.fr XC rfl]; exact o6
      · rw [XC 8 14 (by decide) (by decide) 0]
        split <;> omega
  · refine ⟨hc1, hr1, ?_, by rw [ur, g2]; rfl, Or.inl ⟨g5, g6⟩⟩
    unfold F_X8_leaveAct F_X8_leaveAct_0
    rw [if_pos (Int.le_refl 0), g1]
    simp only [zb]
    rw [if_neg (by rw [g5.1]; decide)]
