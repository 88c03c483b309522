/-! the LAW's loop: one heap, the class and the reference in turn -/
theorem lc_s (r : Int) : lc r r = 0 := by
  unfold lc
  simp
theorem Rel.swR {N : Int} {h h' : zH} (R : Rel N h h) (f : FrR h h') : Rel N h h' := by
  obtain ⟨a1, a2, a3, a4, a5, a6, a7, a8, a9, a10, a11, a12⟩ := R
  have g : ∀ (c : Nat) (i j : Int), (c = 12 ∨ 50 ≤ c) → gt h' c i j = gt h c i j := fun c i j z => by rw [(f c z).2]
  exact ⟨a1, a2.cg (fun c i j z => g c i j (by omega)), a3, a4, a5.cg (fun _ _ _ _ => rfl) (fun c i j z => g c i j (by omega)), a6.cg (fun _ _ _ _ => rfl) (fun c i j z => g c i j (by omega)), a7.cg (fun _ _ _ _ => rfl) (fun c i j z => g c i j (by omega)), a8.cg (fun _ _ _ _ => rfl) (fun c i j z => g c i j (by omega)), a9.cg (fun _ _ _ _ => rfl) (fun c i j z => g c i j (by omega)), a10.cg (fun _ _ _ _ => rfl) (fun c i j z => g c i j (by omega)), a11.cg (fun _ _ _ _ => rfl) (fun c i j z => g c i j (by omega)), a12.cg (fun _ _ _ _ => rfl) (fun c i j z => g c i j (by omega))⟩
theorem Rel.swC {N : Int} {h h' : zH} (R : Rel N h h') (f : FrC h h') (n : FrN h h') : Rel N h' h' := by
  obtain ⟨a1, a2, a3, a4, a5, a6, a7, a8, a9, a10, a11, a12⟩ := R
  have g : ∀ (c : Nat) (i j : Int), ((c ≠ 12 ∧ c < 50) ∨ 100 ≤ c) → gt h' c i j = gt h c i j := fun c i j z => by rw [(f c z).2]
  exact ⟨a1.cg (fun c i j z => g c i j (by omega)), a2, a3.cg (fun c i j z => g c i j (by omega)), a4.cg (fun c i j z => g c i j (by omega)) n.1, a5.cg (fun c i j z => g c i j (by omega)) (fun _ _ _ _ => rfl), a6.cg (fun c i j z => g c i j (by omega)) (fun _ _ _ _ => rfl), a7.cg (fun c i j z => g c i j (by omega)) (fun _ _ _ _ => rfl), a8.cg (fun c i j z => g c i j (by omega)) (fun _ _ _ _ => rfl), a9.cg (fun c i j z => g c i j (by omega)) (fun _ _ _ _ => rfl), a10.cg (fun c i j z => g c i j (by omega)) (fun _ _ _ _ => rfl), a11.cg (fun c i j z => g c i j (by omega)) (fun _ _ _ _ => rfl), a12.cg (fun c i j z => g c i j (by omega)) (fun _ _ _ _ => rfl)⟩
theorem ap_one {F1 F2 : zH → zO} (A : Ap F1 F2) (f1 : ∀ h r h', F1 h = some (r, h') → FrR h h') (f2 : ∀ h r h', F2 h = some (r, h') → FrC h h') (f3 : ∀ h r h', F2 h = some (r, h') → FrN h h') {N : Int} {h : zH} {X : Int → Int → Int} (N0 : 0 ≤ N) (N1 : N ≤ 1000) (R : Rel N h h) (hX : gt h 103 = X) :
    ∃ r h1 h2, F1 h = some (r, h1) ∧ F2 h1 = some (r, h2) ∧ gt h1 103 = X ∧ gt h2 103 = X ∧ Rel (N + 1) h2 h2 ∧ nn h2 ≤ nn h + 8 ∧ us h2 ≤ us h + 248 := by
  obtain ⟨r0, h1, h0, e1, _, _, _, _⟩ := A N h h N0 N1 R
  have R1 := R.swR (f1 _ _ _ e1)
  obtain ⟨r, h1', h2, s1, s2, s3, s4, s5⟩ := A N h h1 N0 N1 R1
  rw [e1] at s1
  injection s1 with s1
  injection s1 with s1 s1'
  subst s1'
  subst s1
  have n := f3 _ _ _ s2
  exact ⟨r0, h1, h2, e1, s2, ((f1 _ _ _ e1) 103 (Or.inr (by decide))).2.trans hX, (((f2 _ _ _ s2) 103 (Or.inr (by decide))).2.trans ((f1 _ _ _ e1) 103 (Or.inr (by decide))).2).trans hX, s3.swC (f2 _ _ _ s2) n, by rw [n.nn]; exact s4, by rw [n.us]; exact s5⟩
theorem law_it {ag : Int → Int → Int → zH → zO} {N l3 : Int} {h : zH} {X : Int → Int → Int} (N0 : 0 ≤ N) (N1 : N ≤ 1000) (R : Rel N h h) (hX : gt h 103 = X) (L1 : X 0 (-1) ≤ 2560) (i0 : 0 ≤ l3) (i1 : l3 ≤ X 0 (-1) - 5) :
    ∃ h2, F_L_law_18b ag 0 0 l3 h = ag 0 0 (l3 + 5) h2 ∧ gt h2 103 = X ∧ Rel (N + 1) h2 h2 ∧ nn h2 ≤ nn h + 8 ∧ us h2 ≤ us h + 248 := by
  have w0 : wI (X 0 (-1) - 5) = X 0 (-1) - 5 := wI_s ⟨by omega, by omega⟩
  have w1 : wI (l3 + 1) = l3 + 1 := wI_s ⟨by omega, by omega⟩
  have w2 : wI (l3 + 2) = l3 + 2 := wI_s ⟨by omega, by omega⟩
  have w3 : wI (l3 + 3) = l3 + 3 := wI_s ⟨by omega, by omega⟩
  have w4 : wI (l3 + 4) = l3 + 4 := wI_s ⟨by omega, by omega⟩
  have w5 : wI (l3 + 5) = l3 + 5 := wI_s ⟨by omega, by omega⟩
  have en : ¬ X 0 (-1) - 5 < l3 := by omega
  have b0 : 0 ≤ l3 ∧ l3 < X 0 (-1) := by omega
  have b1 : 0 ≤ l3 + 1 ∧ l3 + 1 < X 0 (-1) := by omega
  have b2 : 0 ≤ l3 + 2 ∧ l3 + 2 < X 0 (-1) := by omega
  have b3 : 0 ≤ l3 + 3 ∧ l3 + 3 < X 0 (-1) := by omega
  have b4 : 0 ≤ l3 + 4 ∧ l3 + 4 < X 0 (-1) := by omega
  have z00 : (0 : Int) ≤ 0 := Int.le_refl 0
  unfold F_L_law_18b
  rw [hX, w0, if_neg en, if_pos b0]
  by_cases c0 : wA (X 0 l3) 31 = 0
  · rw [if_pos c0]
    obtain ⟨r, h1, h2, e1, e2, g1, g2, R', n', u'⟩ := ap_one (ap_part (X 0 (l3 + 1)) (X 0 (l3 + 2))) (fun h r h' e => fr_X11_part e) (fun h r h' e => fr_X12_part e) (fun h r h' e => nf_X12_part e) N0 N1 R hX
    refine ⟨h2, ?_, g2, R', n', u'⟩
    simp only [w1, w2, w5, b1, b2, hX, and_self, ↓reduceIte, zb, z00, e1, g1, e2]
  rw [if_neg c0]
  by_cases c1 : wA (X 0 l3) 31 = 1
  · rw [if_pos c1]
    obtain ⟨r, h1, h2, e1, e2, g1, g2, R', n', u'⟩ := ap_one (ap_state (X 0 (l3 + 1))) (fun h r h' e => fr_X11_state e) (fun h r h' e => fr_X12_state e) (fun h r h' e => nf_X12_state e) N0 N1 R hX
    refine ⟨h2, ?_, g2, R', n', u'⟩
    simp only [w1, w5, b1, hX, and_self, ↓reduceIte, zb, z00, e1, g1, e2]
  rw [if_neg c1]
  by_cases c2 : wA (X 0 l3) 31 = 2
  · rw [if_pos c2]
    obtain ⟨r, h1, h2, e1, e2, g1, g2, R', n', u'⟩ := ap_one (ap_clean (X 0 (l3 + 1))) (fun h r h' e => fr_X11_clean e) (fun h r h' e => fr_X12_clean e) (fun h r h' e => nf_X12_clean e) N0 N1 R hX
    refine ⟨h2, ?_, g2, R', n', u'⟩
    simp only [w1, w5, b1, hX, and_self, ↓reduceIte, zb, z00, e1, g1, e2]
  rw [if_neg c2]
  by_cases c3 : wA (X 0 l3) 31 = 3
  · rw [if_pos c3]
    obtain ⟨r, h1, h2, e1, e2, g1, g2, R', n', u'⟩ := ap_one (ap_cleaning (X 0 (l3 + 1))) (fun h r h' e => fr_X11_cleaning e) (fun h r h' e => fr_X12_cleaning e) (fun h r h' e => nf_X12_cleaning e) N0 N1 R hX
    refine ⟨h2, ?_, g2, R', n', u'⟩
    simp only [w1, w5, b1, hX, and_self, ↓reduceIte, zb, z00, e1, g1, e2]
  rw [if_neg c3]
  by_cases c4 : wA (X 0 l3) 31 = 4
  · rw [if_pos c4]
    obtain ⟨r, h1, h2, e1, e2, g1, g2, R', n', u'⟩ := ap_one (ap_plan (X 0 (l3 + 1)) (X 0 (l3 + 2)) (X 0 (l3 + 3))) (fun h r h' e => fr_X11_plan e) (fun h r h' e => fr_X12_plan e) (fun h r h' e => nf_X12_plan e) N0 N1 R hX
    refine ⟨h2, ?_, g2, R', n', u'⟩
    simp only [w1, w2, w3, w5, b1, b2, b3, hX, and_self, ↓reduceIte, zb, z00, e1, g1, e2]
  rw [if_neg c4]
  by_cases c5 : wA (X 0 l3) 31 = 5
  · rw [if_pos c5]
    by_cases q : X 0 (l3 + 1) = 0
    · obtain ⟨r, h1, h2, e1, e2, g1, g2, R', n', u'⟩ := ap_one (ap_plans 0) (fun h r h' e => fr_X11_plans e) (fun h r h' e => fr_X12_plans e) (fun h r h' e => nf_X12_plans e) N0 N1 R hX
      refine ⟨h2, ?_, g2, R', n', u'⟩
      simp only [w1, w5, b1, q, and_self, ↓reduceIte, zb, z00, e1, g1, e2]
    · obtain ⟨r, h1, h2, e1, e2, g1, g2, R', n', u'⟩ := ap_one (ap_plans 1) (fun h r h' e => fr_X11_plans e) (fun h r h' e => fr_X12_plans e) (fun h r h' e => nf_X12_plans e) N0 N1 R hX
      refine ⟨h2, ?_, g2, R', n', u'⟩
      simp only [w1, w5, b1, q, and_self, ↓reduceIte, zb, z00, e1, g1, e2]
  rw [if_neg c5]
  by_cases c6 : wA (X 0 l3) 31 = 6
  · rw [if_pos c6]
    obtain ⟨r, h1, h2, e1, e2, g1, g2, R', n', u'⟩ := ap_one (ap_act ) (fun h r h' e => fr_X11_act e) (fun h r h' e => fr_X12_act e) (fun h r h' e => nf_X12_act e) N0 N1 R hX
    refine ⟨h2, ?_, g2, R', n', u'⟩
    simp only [w5, hX, and_self, ↓reduceIte, zb, z00, e1, g1, e2]
  rw [if_neg c6]
  by_cases c7 : wA (X 0 l3) 31 = 7
  · rw [if_pos c7]
    obtain ⟨r, h1, h2, e1, e2, g1, g2, R', n', u'⟩ := ap_one (ap_line (X 0 (l3 + 1)) (X 0 (l3 + 2)) (X 0 (l3 + 3)) (X 0 (l3 + 4))) (fun h r h' e => fr_X11_line e) (fun h r h' e => fr_X12_line e) (fun h r h' e => nf_X12_line e) N0 N1 R hX
    refine ⟨h2, ?_, g2, R', n', u'⟩
    simp only [w1, w2, w3, w4, w5, b1, b2, b3, b4, hX, and_self, ↓reduceIte, zb, z00, e1, g1, e2]
  rw [if_neg c7]
  by_cases c8 : wA (X 0 l3) 31 = 8
  · rw [if_pos c8]
    obtain ⟨r, h1, h2, e1, e2, g1, g2, R', n', u'⟩ := ap_one (ap_wipe (X 0 (l3 + 1))) (fun h r h' e => fr_X11_wipe e) (fun h r h' e => fr_X12_wipe e) (fun h r h' e => nf_X12_wipe e) N0 N1 R hX
    refine ⟨h2, ?_, g2, R', n', u'⟩
    simp only [w1, w5, b1, hX, and_self, ↓reduceIte, zb, z00, e1, g1, e2]
  rw [if_neg c8]
  by_cases c9 : wA (X 0 l3) 31 = 9
  · rw [if_pos c9]
    obtain ⟨r, h1, h2, e1, e2, g1, g2, R', n', u'⟩ := ap_one (ap_fault (X 0 (l3 + 1)) (X 0 (l3 + 2))) (fun h r h' e => fr_X11_fault e) (fun h r h' e => fr_X12_fault e) (fun h r h' e => nf_X12_fault e) N0 N1 R hX
    refine ⟨h2, ?_, g2, R', n', u'⟩
    simp only [w1, w2, w5, b1, b2, hX, and_self, ↓reduceIte, zb, z00, e1, g1, e2]
  rw [if_neg c9]
  by_cases c10 : wA (X 0 l3) 31 = 10
  · rw [if_pos c10]
    obtain ⟨r, h1, h2, e1, e2, g1, g2, R', n', u'⟩ := ap_one (ap_run (X 0 (l3 + 1)) (X 0 (l3 + 2))) (fun h r h' e => fr_X11_run e) (fun h r h' e => fr_X12_run e) (fun h r h' e => nf_X12_run e) N0 N1 R hX
    refine ⟨h2, ?_, g2, R', n', u'⟩
    simp only [w1, w2, w5, b1, b2, hX, and_self, ↓reduceIte, zb, z00, e1, g1, e2]
  rw [if_neg c10]
  by_cases c11 : wA (X 0 l3) 31 = 11
  · rw [if_pos c11]
    obtain ⟨r, h1, h2, e1, e2, g1, g2, R', n', u'⟩ := ap_one (ap_ran (X 0 (l3 + 1))) (fun h r h' e => fr_X11_ran e) (fun h r h' e => fr_X12_ran e) (fun h r h' e => nf_X12_ran e) N0 N1 R hX
    refine ⟨h2, ?_, g2, R', n', u'⟩
    simp only [w1, w5, b1, hX, and_self, ↓reduceIte, zb, z00, e1, g1, e2]
  rw [if_neg c11]
  by_cases c12 : wA (X 0 l3) 31 = 12
  · rw [if_pos c12]
    obtain ⟨r, h1, h2, e1, e2, g1, g2, R', n', u'⟩ := ap_one (ap_failure (X 0 (l3 + 1)) (X 0 (l3 + 2))) (fun h r h' e => fr_X11_failure e) (fun h r h' e => fr_X12_failure e) (fun h r h' e => nf_X12_failure e) N0 N1 R hX
    refine ⟨h2, ?_, g2, R', n', u'⟩
    simp only [w1, w2, w5, b1, b2, hX, and_self, ↓reduceIte, zb, z00, e1, g1, e2]
  rw [if_neg c12]
  by_cases c13 : wA (X 0 l3) 31 = 13
  · rw [if_pos c13]
    obtain ⟨r, h1, h2, e1, e2, g1, g2, R', n', u'⟩ := ap_one (ap_leaks ) (fun h r h' e => fr_X11_leaks e) (fun h r h' e => fr_X12_leaks e) (fun h r h' e => nf_X12_leaks e) N0 N1 R hX
    refine ⟨h2, ?_, g2, R', n', u'⟩
    simp only [w5, hX, and_self, ↓reduceIte, zb, z00, e1, g1, e2]
  rw [if_neg c13]
  by_cases c14 : wA (X 0 l3) 31 = 14
  · rw [if_pos c14]
    obtain ⟨r, h1, h2, e1, e2, g1, g2, R', n', u'⟩ := ap_one (ap_leak (X 0 (l3 + 1)) (X 0 (l3 + 2))) (fun h r h' e => fr_X11_leak e) (fun h r h' e => fr_X12_leak e) (fun h r h' e => nf_X12_leak e) N0 N1 R hX
    refine ⟨h2, ?_, g2, R', n', u'⟩
    simp only [w1, w2, w5, b1, b2, hX, and_self, ↓reduceIte, zb, z00, e1, g1, e2]
  rw [if_neg c14]
  by_cases c15 : wA (X 0 l3) 31 = 15
  · rw [if_pos c15]
    obtain ⟨r, h1, h2, e1, e2, g1, g2, R', n', u'⟩ := ap_one (ap_trace (X 0 (l3 + 1)) (X 0 (l3 + 2)) (X 0 (l3 + 3))) (fun h r h' e => fr_X11_trace e) (fun h r h' e => fr_X12_trace_ e) (fun h r h' e => nf_X12_trace_ e) N0 N1 R hX
    refine ⟨h2, ?_, g2, R', n', u'⟩
    simp only [w1, w2, w3, w5, b1, b2, b3, hX, and_self, ↓reduceIte, zb, z00, e1, g1, e2]
  rw [if_neg c15]
  by_cases c16 : wA (X 0 l3) 31 = 16
  · rw [if_pos c16]
    obtain ⟨r, h1, h2, e1, e2, g1, g2, R', n', u'⟩ := ap_one (ap_giveBack (X 0 (l3 + 1))) (fun h r h' e => fr_X11_giveBack e) (fun h r h' e => fr_X12_giveBack_ e) (fun h r h' e => nf_X12_giveBack_ e) N0 N1 R hX
    refine ⟨h2, ?_, g2, R', n', u'⟩
    simp only [w1, w5, b1, hX, and_self, ↓reduceIte, zb, z00, e1, g1, e2]
  rw [if_neg c16]
  by_cases c17 : wA (X 0 l3) 31 = 17
  · rw [if_pos c17]
    obtain ⟨r, h1, h2, e1, e2, g1, g2, R', n', u'⟩ := ap_one (ap_cents (X 0 (l3 + 1)) (X 0 (l3 + 2))) (fun h r h' e => fr_X11_cents e) (fun h r h' e => fr_X12_cents e) (fun h r h' e => nf_X12_cents e) N0 N1 R hX
    refine ⟨h2, ?_, g2, R', n', u'⟩
    simp only [w1, w2, w5, b1, b2, hX, and_self, ↓reduceIte, zb, z00, e1, g1, e2, lc_s]
  rw [if_neg c17]
  by_cases c18 : wA (X 0 l3) 31 = 18
  · rw [if_pos c18]
    obtain ⟨r, h1, h2, e1, e2, g1, g2, R', n', u'⟩ := ap_one (ap_log (X 0 (l3 + 1)) (X 0 (l3 + 2))) (fun h r h' e => fr_X11_log e) (fun h r h' e => fr_X12_log e) (fun h r h' e => nf_X12_log e) N0 N1 R hX
    refine ⟨h2, ?_, g2, R', n', u'⟩
    simp only [w1, w2, w5, b1, b2, hX, and_self, ↓reduceIte, zb, z00, e1, g1, e2]
  rw [if_neg c18, w5]
  exact ⟨h, rfl, hX, R.up, by omega, by omega⟩
