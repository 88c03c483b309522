/-- nothing is made -/
def FrN (h h' : zH) : Prop := h'.1 = h.1 ∧ h'.2.2 = h.2.2
theorem FrN.tr {a b c : zH} (h : FrN a b) (k : FrN b c) : FrN a c := ⟨k.1.trans h.1, k.2.trans h.2⟩
theorem frrN (h : zH) : FrN h h := ⟨rfl, rfl⟩
theorem frpN {a h : zH} {c : Nat} {i j v : Int} (k : FrN a h) : FrN a (pt h c i j v) := ⟨k.1, k.2⟩
theorem n_X0_init_0 {l0 : Int} {h : zH} {r : Int} {h' : zH} (hF : F_X0_init_0 l0 h = some (r, h')) : FrN h h' := by
  unfold F_X0_init_0 at hF
  obtain ⟨g1, hF⟩ := zg hF
  obtain ⟨_, rfl⟩ := zr hF
  exact (frrN h)
theorem nf_X0_init {l0 : Int} {h : zH} {r : Int} {h' : zH} (hF : F_X0_init l0 h = some (r, h')) : FrN h h' := n_X0_init_0 hF
theorem n_X9_init_0 {l0 : Int} {h : zH} {r : Int} {h' : zH} (hF : F_X9_init_0 l0 h = some (r, h')) : FrN h h' := by
  unfold F_X9_init_0 at hF
  obtain ⟨g1, hF⟩ := zg hF
  obtain ⟨_, rfl⟩ := zr hF
  exact (frrN h)
theorem nf_X9_init {l0 : Int} {h : zH} {r : Int} {h' : zH} (hF : F_X9_init l0 h = some (r, h')) : FrN h h' := n_X9_init_0 hF
theorem n_X4_init_0 {l0 : Int} {h : zH} {r : Int} {h' : zH} (hF : F_X4_init_0 l0 h = some (r, h')) : FrN h h' := by
  unfold F_X4_init_0 at hF
  obtain ⟨g1, hF⟩ := zg hF
  obtain ⟨_, rfl⟩ := zr hF
  exact (frrN h)
theorem nf_X4_init {l0 : Int} {h : zH} {r : Int} {h' : zH} (hF : F_X4_init l0 h = some (r, h')) : FrN h h' := n_X4_init_0 hF
theorem n_X11_within_0 {l0 l1 : Int} {h : zH} {r : Int} {h' : zH} (hF : F_X11_within_0 l0 l1 h = some (r, h')) : FrN h h' := by
  unfold F_X11_within_0 at hF
  by_cases c1 : l0 < 0
  · have hF := ip c1 hF
    obtain ⟨_, rfl⟩ := zr hF
    exact (frrN h)
  · have hF := im c1 hF
    by_cases c2 : l1 ≤ l0
    · have hF := ip c2 hF
      obtain ⟨_, rfl⟩ := zr hF
      exact (frrN h)
    · have hF := im c2 hF
      obtain ⟨_, rfl⟩ := zr hF
      exact (frrN h)
theorem nf_X11_within {l0 l1 : Int} {h : zH} {r : Int} {h' : zH} (hF : F_X11_within l0 l1 h = some (r, h')) : FrN h h' := n_X11_within_0 hF
theorem n_X3_find_0 {l0 l1 : Int} {h : zH} {r : Int} {h' : zH} (hF : F_X3_find_0 l0 l1 h = some (r, h')) : FrN h h' := by
  unfold F_X3_find_0 at hF
  obtain ⟨g1, hF⟩ := zg hF
  obtain ⟨r2, h2, e2, hF⟩ := zb_some hF
  by_cases c3 : r2 = 0
  · have hF := ip c3 hF
    obtain ⟨_, rfl⟩ := zr hF
    exact ((frrN h).tr (nf_X11_within e2))
  · have hF := im c3 hF
    obtain ⟨g4, hF⟩ := zg hF
    obtain ⟨g5, hF⟩ := zg hF
    obtain ⟨_, rfl⟩ := zr hF
    exact ((frrN h).tr (nf_X11_within e2))
theorem nf_X3_find {l0 l1 : Int} {h : zH} {r : Int} {h' : zH} (hF : F_X3_find l0 l1 h = some (r, h')) : FrN h h' := n_X3_find_0 hF
theorem n_X11_state_0 {l0 l1 : Int} {h : zH} {r : Int} {h' : zH} (hF : F_X11_state_0 l0 l1 h = some (r, h')) : FrN h h' := by
  unfold F_X11_state_0 at hF
  obtain ⟨g1, hF⟩ := zg hF
  obtain ⟨g3, hF⟩ := zg hF
  obtain ⟨r2, h2, e2, hF⟩ := zb_some hF
  by_cases c4 : r2 ≠ -1
  · have hF := ip c4 hF
    obtain ⟨g5, hF⟩ := zg hF
    obtain ⟨_, rfl⟩ := zr hF
    exact ((frrN h).tr (nf_X3_find e2))
  · have hF := im c4 hF
    obtain ⟨_, rfl⟩ := zr hF
    exact ((frrN h).tr (nf_X3_find e2))
theorem nf_X11_state {l0 l1 : Int} {h : zH} {r : Int} {h' : zH} (hF : F_X11_state l0 l1 h = some (r, h')) : FrN h h' := n_X11_state_0 hF
theorem n_X3_inCleaning_0 {l0 l1 : Int} {h : zH} {r : Int} {h' : zH} (hF : F_X3_inCleaning_0 l0 l1 h = some (r, h')) : FrN h h' := by
  unfold F_X3_inCleaning_0 at hF
  obtain ⟨g1, hF⟩ := zg hF
  obtain ⟨r2, h2, e2, hF⟩ := zb_some hF
  by_cases c3 : r2 = 0
  · have hF := ip c3 hF
    obtain ⟨_, rfl⟩ := zr hF
    exact ((frrN h).tr (nf_X11_within e2))
  · have hF := im c3 hF
    obtain ⟨g4, hF⟩ := zg hF
    obtain ⟨g5, hF⟩ := zg hF
    obtain ⟨_, rfl⟩ := zr hF
    exact ((frrN h).tr (nf_X11_within e2))
theorem nf_X3_inCleaning {l0 l1 : Int} {h : zH} {r : Int} {h' : zH} (hF : F_X3_inCleaning l0 l1 h = some (r, h')) : FrN h h' := n_X3_inCleaning_0 hF
theorem n_X3_cleanFirst_46b {ag46 : Int → Int → Int → zH → zO} (hag46 : ∀ (l0 l2 l3 : Int) (h : zH) (r : Int) (h' : zH), ag46 l0 l2 l3 h = some (r, h') → FrN h h') {l0 l2 l3 : Int} {h : zH} {r : Int} {h' : zH} (hF : F_X3_cleanFirst_46b ag46 l0 l2 l3 h = some (r, h')) : FrN h h' := by
  unfold F_X3_cleanFirst_46b at hF
  obtain ⟨g1, hF⟩ := zg hF
  by_cases c2 : gt h 3 l0 3 ≤ l3
  · have hF := ip c2 hF
    obtain ⟨_, rfl⟩ := zr hF
    exact (frpN (frrN h))
  · have hF := im c2 hF
    obtain ⟨g3, hF⟩ := zg hF
    obtain ⟨g4, hF⟩ := zg hF
    obtain ⟨g5, hF⟩ := zg hF
    exact (frpN (frrN h)).tr (hag46 _ _ _ _ _ _ hF)
theorem n_X3_cleanFirst_46 : ∀ (n : Nat) (l0 l2 l3 : Int) (h : zH) (r : Int) (h' : zH), F_X3_cleanFirst_46 n l0 l2 l3 h = some (r, h') → FrN h h'
  | 0, _, _, _, _, _, _, hF => by cases hF
  | n + 1, _, _, _, _, _, _, hF => n_X3_cleanFirst_46b (n_X3_cleanFirst_46 n) hF
theorem n_X3_cleanFirst_11b {ag11 : Int → Int → Int → zH → zO} (hag11 : ∀ (l0 l2 l3 : Int) (h : zH) (r : Int) (h' : zH), ag11 l0 l2 l3 h = some (r, h') → FrN h h') {l0 l2 l3 : Int} {h : zH} {r : Int} {h' : zH} (hF : F_X3_cleanFirst_11b ag11 l0 l2 l3 h = some (r, h')) : FrN h h' := by
  unfold F_X3_cleanFirst_11b at hF
  by_cases c1 : l2 ≤ l3
  · have hF := ip c1 hF
    exact (frrN h).tr (n_X3_cleanFirst_46 _ _ _ _ _ _ _ hF)
  · have hF := im c1 hF
    obtain ⟨g3, hF⟩ := zg hF
    obtain ⟨r2, h2, e2, hF⟩ := zb_some hF
    obtain ⟨r4, h4, e4, hF⟩ := zb_some hF
    by_cases c5 : r4 = -1
    · have hF := ip c5 hF
      exact (((frrN h).tr (nf_X3_inCleaning e2)).tr (nf_X3_find e4)).tr (hag11 _ _ _ _ _ _ hF)
    · have hF := im c5 hF
      obtain ⟨g6, hF⟩ := zg hF
      exact (frpN (((frrN h).tr (nf_X3_inCleaning e2)).tr (nf_X3_find e4))).tr (hag11 _ _ _ _ _ _ hF)
theorem n_X3_cleanFirst_11 : ∀ (n : Nat) (l0 l2 l3 : Int) (h : zH) (r : Int) (h' : zH), F_X3_cleanFirst_11 n l0 l2 l3 h = some (r, h') → FrN h h'
  | 0, _, _, _, _, _, _, hF => by cases hF
  | n + 1, _, _, _, _, _, _, hF => n_X3_cleanFirst_11b (n_X3_cleanFirst_11 n) hF
theorem n_X3_cleanFirst_0 {l0 l1 : Int} {h : zH} {r : Int} {h' : zH} (hF : F_X3_cleanFirst_0 l0 l1 h = some (r, h')) : FrN h h' := by
  unfold F_X3_cleanFirst_0 at hF
  obtain ⟨g1, hF⟩ := zg hF
  exact (frrN h).tr (n_X3_cleanFirst_11 _ _ _ _ _ _ _ hF)
theorem nf_X3_cleanFirst {l0 l1 : Int} {h : zH} {r : Int} {h' : zH} (hF : F_X3_cleanFirst l0 l1 h = some (r, h')) : FrN h h' := n_X3_cleanFirst_0 hF
theorem n_X11_clean_0 {l0 l1 : Int} {h : zH} {r : Int} {h' : zH} (hF : F_X11_clean_0 l0 l1 h = some (r, h')) : FrN h h' := by
  unfold F_X11_clean_0 at hF
  by_cases c1 : l1 < 0
  · have hF := ip c1 hF
    obtain ⟨_, rfl⟩ := zr hF
    exact (frrN h)
  · have hF := im c1 hF
    by_cases c2 : l1 ≤ 60
    · have hF := ip c2 hF
      obtain ⟨g3, hF⟩ := zg hF
      obtain ⟨g5, hF⟩ := zg hF
      obtain ⟨r4, h4, e4, hF⟩ := zb_some hF
      obtain ⟨_, rfl⟩ := zr hF
      exact ((frrN h).tr (nf_X3_cleanFirst e4))
    · have hF := im c2 hF
      obtain ⟨_, rfl⟩ := zr hF
      exact (frrN h)
theorem nf_X11_clean {l0 l1 : Int} {h : zH} {r : Int} {h' : zH} (hF : F_X11_clean l0 l1 h = some (r, h')) : FrN h h' := n_X11_clean_0 hF
theorem n_X11_cleaning_0 {l0 l1 : Int} {h : zH} {r : Int} {h' : zH} (hF : F_X11_cleaning_0 l0 l1 h = some (r, h')) : FrN h h' := by
  unfold F_X11_cleaning_0 at hF
  obtain ⟨g1, hF⟩ := zg hF
  obtain ⟨g3, hF⟩ := zg hF
  obtain ⟨r2, h2, e2, hF⟩ := zb_some hF
  obtain ⟨_, rfl⟩ := zr hF
  exact ((frrN h).tr (nf_X3_inCleaning e2))
theorem nf_X11_cleaning {l0 l1 : Int} {h : zH} {r : Int} {h' : zH} (hF : F_X11_cleaning l0 l1 h = some (r, h')) : FrN h h' := n_X11_cleaning_0 hF
theorem n_X7_add_0 {l0 l1 l2 l3 : Int} {h : zH} {r : Int} {h' : zH} (hF : F_X7_add_0 l0 l1 l2 l3 h = some (r, h')) : FrN h h' := by
  unfold F_X7_add_0 at hF
  obtain ⟨g1, hF⟩ := zg hF
  obtain ⟨r2, h2, e2, hF⟩ := zb_some hF
  by_cases c3 : r2 ≠ 0
  · have hF := ip c3 hF
    obtain ⟨g4, hF⟩ := zg hF
    obtain ⟨g5, hF⟩ := zg hF
    obtain ⟨g6, hF⟩ := zg hF
    obtain ⟨g7, hF⟩ := zg hF
    have hF := zl_e hF
    have fk8 : FrN h (pt (pt h2 36 (gt h2 7 l0 0) (gt h2 7 l0 3) l1) 37 (gt (pt h2 36 (gt h2 7 l0 0) (gt h2 7 l0 3) l1) 7 l0 1) (gt (pt h2 36 (gt h2 7 l0 0) (gt h2 7 l0 3) l1) 7 l0 3) l2) := (frpN (frpN ((frrN h).tr (nf_X11_within e2))))
    generalize pt (pt h2 36 (gt h2 7 l0 0) (gt h2 7 l0 3) l1) 37 (gt (pt h2 36 (gt h2 7 l0 0) (gt h2 7 l0 3) l1) 7 l0 1) (gt (pt h2 36 (gt h2 7 l0 0) (gt h2 7 l0 3) l1) 7 l0 3) l2 = k8 at hF fk8
    obtain ⟨g9, hF⟩ := zg hF
    obtain ⟨g10, hF⟩ := zg hF
    obtain ⟨_, rfl⟩ := zr hF
    exact (frpN (frpN fk8))
  · have hF := im c3 hF
    obtain ⟨_, rfl⟩ := zr hF
    exact ((frrN h).tr (nf_X11_within e2))
theorem nf_X7_add {l0 l1 l2 l3 : Int} {h : zH} {r : Int} {h' : zH} (hF : F_X7_add l0 l1 l2 l3 h = some (r, h')) : FrN h h' := n_X7_add_0 hF
theorem n_X11_plan_0 {l0 l1 l2 l3 : Int} {h : zH} {r : Int} {h' : zH} (hF : F_X11_plan_0 l0 l1 l2 l3 h = some (r, h')) : FrN h h' := by
  unfold F_X11_plan_0 at hF
  obtain ⟨g1, hF⟩ := zg hF
  obtain ⟨g3, hF⟩ := zg hF
  obtain ⟨r2, h2, e2, hF⟩ := zb_some hF
  by_cases c4 : r2 ≠ -1
  · have hF := ip c4 hF
    by_cases c5 : l2 < 1
    · have hF := ip c5 hF
      obtain ⟨_, rfl⟩ := zr hF
      exact ((frrN h).tr (nf_X3_find e2))
    · have hF := im c5 hF
      by_cases c6 : 20 < l2
      · have hF := ip c6 hF
        obtain ⟨_, rfl⟩ := zr hF
        exact ((frrN h).tr (nf_X3_find e2))
      · have hF := im c6 hF
        obtain ⟨r7, h7, e7, hF⟩ := zb_some hF
        by_cases c8 : r7 ≠ 0
        · have hF := ip c8 hF
          obtain ⟨g9, hF⟩ := zg hF
          obtain ⟨g11, hF⟩ := zg hF
          obtain ⟨r10, h10, e10, hF⟩ := zb_some hF
          obtain ⟨_, rfl⟩ := zr hF
          exact ((((frrN h).tr (nf_X3_find e2)).tr (nf_X11_within e7)).tr (nf_X7_add e10))
        · have hF := im c8 hF
          obtain ⟨_, rfl⟩ := zr hF
          exact (((frrN h).tr (nf_X3_find e2)).tr (nf_X11_within e7))
  · have hF := im c4 hF
    obtain ⟨_, rfl⟩ := zr hF
    exact ((frrN h).tr (nf_X3_find e2))
theorem nf_X11_plan {l0 l1 l2 l3 : Int} {h : zH} {r : Int} {h' : zH} (hF : F_X11_plan l0 l1 l2 l3 h = some (r, h')) : FrN h h' := n_X11_plan_0 hF
theorem n_X11_plans_0 {l0 l1 : Int} {h : zH} {r : Int} {h' : zH} (hF : F_X11_plans_0 l0 l1 h = some (r, h')) : FrN h h' := by
  unfold F_X11_plans_0 at hF
  obtain ⟨g1, hF⟩ := zg hF
  obtain ⟨g2, hF⟩ := zg hF
  obtain ⟨g3, hF⟩ := zg hF
  by_cases c4 : l1 = 0
  · have hF := ip c4 hF
    obtain ⟨_, rfl⟩ := zr hF
    exact (frrN h)
  · have hF := im c4 hF
    obtain ⟨_, rfl⟩ := zr hF
    exact (frpN (frrN h))
theorem nf_X11_plans {l0 l1 : Int} {h : zH} {r : Int} {h' : zH} (hF : F_X11_plans l0 l1 h = some (r, h')) : FrN h h' := n_X11_plans_0 hF
theorem n_X11_findScript_0 {l0 l1 : Int} {h : zH} {r : Int} {h' : zH} (hF : F_X11_findScript_0 l0 l1 h = some (r, h')) : FrN h h' := by
  unfold F_X11_findScript_0 at hF
  obtain ⟨g1, hF⟩ := zg hF
  obtain ⟨r2, h2, e2, hF⟩ := zb_some hF
  by_cases c3 : r2 = 0
  · have hF := ip c3 hF
    obtain ⟨_, rfl⟩ := zr hF
    exact ((frrN h).tr (nf_X11_within e2))
  · have hF := im c3 hF
    obtain ⟨g4, hF⟩ := zg hF
    obtain ⟨_, rfl⟩ := zr hF
    exact ((frrN h).tr (nf_X11_within e2))
theorem nf_X11_findScript {l0 l1 : Int} {h : zH} {r : Int} {h' : zH} (hF : F_X11_findScript l0 l1 h = some (r, h')) : FrN h h' := n_X11_findScript_0 hF
theorem n_X10_fits_0 {l0 l1 : Int} {h : zH} {r : Int} {h' : zH} (hF : F_X10_fits_0 l0 l1 h = some (r, h')) : FrN h h' := by
  unfold F_X10_fits_0 at hF
  by_cases c1 : l1 = (-1)
  · have hF := ip c1 hF
    obtain ⟨_, rfl⟩ := zr hF
    exact (frrN h)
  · have hF := im c1 hF
    by_cases c2 : l0 < 0
    · have hF := ip c2 hF
      obtain ⟨_, rfl⟩ := zr hF
      exact (frrN h)
    · have hF := im c2 hF
      by_cases c3 : l1 < l0
      · have hF := ip c3 hF
        obtain ⟨_, rfl⟩ := zr hF
        exact (frrN h)
      · have hF := im c3 hF
        obtain ⟨_, rfl⟩ := zr hF
        exact (frrN h)
theorem nf_X10_fits {l0 l1 : Int} {h : zH} {r : Int} {h' : zH} (hF : F_X10_fits l0 l1 h = some (r, h')) : FrN h h' := n_X10_fits_0 hF
theorem n_X10_opAt_0 {l0 l1 : Int} {h : zH} {r : Int} {h' : zH} (hF : F_X10_opAt_0 l0 l1 h = some (r, h')) : FrN h h' := by
  unfold F_X10_opAt_0 at hF
  obtain ⟨g1, hF⟩ := zg hF
  obtain ⟨r2, h2, e2, hF⟩ := zb_some hF
  by_cases c3 : r2 = 0
  · have hF := ip c3 hF
    obtain ⟨_, rfl⟩ := zr hF
    exact ((frrN h).tr (nf_X11_within e2))
  · have hF := im c3 hF
    obtain ⟨g4, hF⟩ := zg hF
    obtain ⟨g5, hF⟩ := zg hF
    obtain ⟨_, rfl⟩ := zr hF
    exact ((frrN h).tr (nf_X11_within e2))
theorem nf_X10_opAt {l0 l1 : Int} {h : zH} {r : Int} {h' : zH} (hF : F_X10_opAt l0 l1 h = some (r, h')) : FrN h h' := n_X10_opAt_0 hF
theorem n_X10_takesWays_0 {l0 : Int} {h : zH} {r : Int} {h' : zH} (hF : F_X10_takesWays_0 l0 h = some (r, h')) : FrN h h' := by
  unfold F_X10_takesWays_0 at hF
  obtain ⟨g1, hF⟩ := zg hF
  obtain ⟨r2, h2, e2, hF⟩ := zb_some hF
  by_cases c3 : r2 = 0
  · have hF := ip c3 hF
    obtain ⟨_, rfl⟩ := zr hF
    exact ((frrN h).tr (nf_X11_within e2))
  · have hF := im c3 hF
    obtain ⟨g4, hF⟩ := zg hF
    obtain ⟨g5, hF⟩ := zg hF
    obtain ⟨r6, h6, e6, hF⟩ := zb_some hF
    by_cases c7 : r6 ≠ 13
    · have hF := ip c7 hF
      obtain ⟨_, rfl⟩ := zr hF
      exact (((frrN h).tr (nf_X11_within e2)).tr (nf_X10_opAt e6))
    · have hF := im c7 hF
      obtain ⟨g8, hF⟩ := zg hF
      obtain ⟨r9, h9, e9, hF⟩ := zb_some hF
      by_cases c10 : r9 = 15
      · have hF := ip c10 hF
        obtain ⟨_, rfl⟩ := zr hF
        exact ((((frrN h).tr (nf_X11_within e2)).tr (nf_X10_opAt e6)).tr (nf_X10_opAt e9))
      · have hF := im c10 hF
        obtain ⟨_, rfl⟩ := zr hF
        exact ((((frrN h).tr (nf_X11_within e2)).tr (nf_X10_opAt e6)).tr (nf_X10_opAt e9))
theorem nf_X10_takesWays {l0 : Int} {h : zH} {r : Int} {h' : zH} (hF : F_X10_takesWays l0 h = some (r, h')) : FrN h h' := n_X10_takesWays_0 hF
theorem n_X10_isInLoop_2b {ag2 : Int → Int → zH → zO} (hag2 : ∀ (l0 l1 : Int) (h : zH) (r : Int) (h' : zH), ag2 l0 l1 h = some (r, h') → FrN h h') {l0 l1 : Int} {h : zH} {r : Int} {h' : zH} (hF : F_X10_isInLoop_2b ag2 l0 l1 h = some (r, h')) : FrN h h' := by
  unfold F_X10_isInLoop_2b at hF
  obtain ⟨g1, hF⟩ := zg hF
  by_cases c2 : gt h 10 l0 9 ≤ l1
  · have hF := ip c2 hF
    obtain ⟨_, rfl⟩ := zr hF
    exact (frrN h)
  · have hF := im c2 hF
    obtain ⟨g3, hF⟩ := zg hF
    obtain ⟨g4, hF⟩ := zg hF
    obtain ⟨r5, h5, e5, hF⟩ := zb_some hF
    by_cases c6 : r5 ≠ 11
    · have hF := ip c6 hF
      exact ((frrN h).tr (nf_X10_opAt e5)).tr (hag2 _ _ _ _ _ hF)
    · have hF := im c6 hF
      obtain ⟨_, rfl⟩ := zr hF
      exact ((frrN h).tr (nf_X10_opAt e5))
theorem n_X10_isInLoop_2 : ∀ (n : Nat) (l0 l1 : Int) (h : zH) (r : Int) (h' : zH), F_X10_isInLoop_2 n l0 l1 h = some (r, h') → FrN h h'
  | 0, _, _, _, _, _, hF => by cases hF
  | n + 1, _, _, _, _, _, hF => n_X10_isInLoop_2b (n_X10_isInLoop_2 n) hF
theorem n_X10_isInLoop_0 {l0 : Int} {h : zH} {r : Int} {h' : zH} (hF : F_X10_isInLoop_0 l0 h = some (r, h')) : FrN h h' := by
  unfold F_X10_isInLoop_0 at hF
  exact (frrN h).tr (n_X10_isInLoop_2 _ _ _ _ _ _ hF)
theorem nf_X10_isInLoop {l0 : Int} {h : zH} {r : Int} {h' : zH} (hF : F_X10_isInLoop l0 h = some (r, h')) : FrN h h' := n_X10_isInLoop_0 hF
theorem n_X10_faultOf_0 {l0 l1 l2 l3 : Int} {h : zH} {r : Int} {h' : zH} (hF : F_X10_faultOf_0 l0 l1 l2 l3 h = some (r, h')) : FrN h h' := by
  unfold F_X10_faultOf_0 at hF
  obtain ⟨r1, h1, e1, hF⟩ := zb_some hF
  by_cases c2 : r1 = 0
  · have hF := ip c2 hF
    obtain ⟨_, rfl⟩ := zr hF
    exact ((frrN h).tr (nf_X11_within e1))
  · have hF := im c2 hF
    obtain ⟨g3, hF⟩ := zg hF
    obtain ⟨r4, h4, e4, hF⟩ := zb_some hF
    by_cases c5 : r4 = 0
    · have hF := ip c5 hF
      obtain ⟨_, rfl⟩ := zr hF
      exact (((frrN h).tr (nf_X11_within e1)).tr (nf_X10_fits e4))
    · have hF := im c5 hF
      obtain ⟨g6, hF⟩ := zg hF
      obtain ⟨r7, h7, e7, hF⟩ := zb_some hF
      by_cases c8 : r7 ≠ 0
      · have hF := ip c8 hF
        by_cases c9 : l1 = 10
        · have hF := ip c9 hF
          obtain ⟨g14, hF⟩ := zg hF
          obtain ⟨r13, h13, e13, hF⟩ := zb_some hF
          by_cases c15 : r13 = 0
          · have hF := ip c15 hF
            obtain ⟨_, rfl⟩ := zr hF
            exact (((((frrN h).tr (nf_X11_within e1)).tr (nf_X10_fits e4)).tr (nf_X10_fits e7)).tr (nf_X10_isInLoop e13))
          · have hF := im c15 hF
            obtain ⟨_, rfl⟩ := zr hF
            exact (((((frrN h).tr (nf_X11_within e1)).tr (nf_X10_fits e4)).tr (nf_X10_fits e7)).tr (nf_X10_isInLoop e13))
        · have hF := im c9 hF
          by_cases c16 : l1 = 11 ∨ l1 = 12 ∨ l1 = 13
          · have hF := ip c16 hF
            obtain ⟨g19, hF⟩ := zg hF
            by_cases c20 : 8 ≤ gt h7 10 l0 9
            · have hF := ip c20 hF
              obtain ⟨_, rfl⟩ := zr hF
              exact ((((frrN h).tr (nf_X11_within e1)).tr (nf_X10_fits e4)).tr (nf_X10_fits e7))
            · have hF := im c20 hF
              obtain ⟨_, rfl⟩ := zr hF
              exact ((((frrN h).tr (nf_X11_within e1)).tr (nf_X10_fits e4)).tr (nf_X10_fits e7))
          · have hF := im c16 hF
            by_cases c21 : l1 = 14 ∨ l1 = 15
            · have hF := ip c21 hF
              obtain ⟨g26, hF⟩ := zg hF
              obtain ⟨r25, h25, e25, hF⟩ := zb_some hF
              by_cases c27 : r25 = 0
              · have hF := ip c27 hF
                obtain ⟨_, rfl⟩ := zr hF
                exact (((((frrN h).tr (nf_X11_within e1)).tr (nf_X10_fits e4)).tr (nf_X10_fits e7)).tr (nf_X10_takesWays e25))
              · have hF := im c27 hF
                obtain ⟨_, rfl⟩ := zr hF
                exact (((((frrN h).tr (nf_X11_within e1)).tr (nf_X10_fits e4)).tr (nf_X10_fits e7)).tr (nf_X10_takesWays e25))
            · have hF := im c21 hF
              by_cases c28 : l1 = 16
              · have hF := ip c28 hF
                obtain ⟨g31, hF⟩ := zg hF
                by_cases c32 : gt h7 10 l0 9 ≤ 0
                · have hF := ip c32 hF
                  obtain ⟨_, rfl⟩ := zr hF
                  exact ((((frrN h).tr (nf_X11_within e1)).tr (nf_X10_fits e4)).tr (nf_X10_fits e7))
                · have hF := im c32 hF
                  obtain ⟨_, rfl⟩ := zr hF
                  exact ((((frrN h).tr (nf_X11_within e1)).tr (nf_X10_fits e4)).tr (nf_X10_fits e7))
              · have hF := im c28 hF
                obtain ⟨_, rfl⟩ := zr hF
                exact ((((frrN h).tr (nf_X11_within e1)).tr (nf_X10_fits e4)).tr (nf_X10_fits e7))
      · have hF := im c8 hF
        obtain ⟨_, rfl⟩ := zr hF
        exact ((((frrN h).tr (nf_X11_within e1)).tr (nf_X10_fits e4)).tr (nf_X10_fits e7))
theorem nf_X10_faultOf {l0 l1 l2 l3 : Int} {h : zH} {r : Int} {h' : zH} (hF : F_X10_faultOf l0 l1 l2 l3 h = some (r, h')) : FrN h h' := n_X10_faultOf_0 hF
theorem n_X10_linkMark_43 {l0 l1 l2 l3 : Int} {h : zH} {r : Int} {h' : zH} (hF : F_X10_linkMark_43 l0 l1 l2 l3 h = some (r, h')) : FrN h h' := by
  unfold F_X10_linkMark_43 at hF
  obtain ⟨g1, hF⟩ := zg hF
  obtain ⟨g2, hF⟩ := zg hF
  obtain ⟨g3, hF⟩ := zg hF
  by_cases c4 : l1 ≠ 16
  · have hF := ip c4 hF
    obtain ⟨_, rfl⟩ := zr hF
    exact (frpN (frrN h))
  · have hF := im c4 hF
    obtain ⟨_, rfl⟩ := zr hF
    exact (frpN (frpN (frrN h)))
theorem n_X10_linkMark_0 {l0 l1 l2 : Int} {h : zH} {r : Int} {h' : zH} (hF : F_X10_linkMark_0 l0 l1 l2 h = some (r, h')) : FrN h h' := by
  unfold F_X10_linkMark_0 at hF
  obtain ⟨g1, hF⟩ := zg hF
  obtain ⟨r2, h2, e2, hF⟩ := zb_some hF
  by_cases c3 : r2 ≠ 0
  · have hF := ip c3 hF
    obtain ⟨g4, hF⟩ := zg hF
    obtain ⟨g5, hF⟩ := zg hF
    obtain ⟨r6, h6, e6, hF⟩ := zb_some hF
    by_cases c7 : r6 = 0
    · have hF := ip c7 hF
      exact (((frrN h).tr (nf_X11_within e2)).tr (nf_X11_within e6)).tr (n_X10_linkMark_43 hF)
    · have hF := im c7 hF
      obtain ⟨g8, hF⟩ := zg hF
      obtain ⟨g9, hF⟩ := zg hF
      obtain ⟨g10, hF⟩ := zg hF
      exact (frpN (((frrN h).tr (nf_X11_within e2)).tr (nf_X11_within e6))).tr (n_X10_linkMark_43 hF)
  · have hF := im c3 hF
    obtain ⟨_, rfl⟩ := zr hF
    exact ((frrN h).tr (nf_X11_within e2))
theorem nf_X10_linkMark {l0 l1 l2 : Int} {h : zH} {r : Int} {h' : zH} (hF : F_X10_linkMark l0 l1 l2 h = some (r, h')) : FrN h h' := n_X10_linkMark_0 hF
theorem n_X10_place_81 {l0 l1 l2 : Int} {h : zH} {r : Int} {h' : zH} (hF : F_X10_place_81 l0 l1 l2 h = some (r, h')) : FrN h h' := by
  unfold F_X10_place_81 at hF
  obtain ⟨g2, hF⟩ := zg hF
  obtain ⟨r1, h1, e1, hF⟩ := zb_some hF
  obtain ⟨_, rfl⟩ := zr hF
  exact ((frrN h).tr (nf_X10_linkMark e1))
theorem n_X10_place_18 {l0 l2 : Int} {h : zH} {r : Int} {h' : zH} (hF : F_X10_place_18 l0 l2 h = some (r, h')) : FrN h h' := by
  unfold F_X10_place_18 at hF
  obtain ⟨g1, hF⟩ := zg hF
  obtain ⟨r2, h2, e2, hF⟩ := zb_some hF
  by_cases c3 : r2 = 0
  · have hF := ip c3 hF
    obtain ⟨_, rfl⟩ := zr hF
    exact ((frrN h).tr (nf_X11_within e2))
  · have hF := im c3 hF
    obtain ⟨g4, hF⟩ := zg hF
    obtain ⟨g5, hF⟩ := zg hF
    obtain ⟨g6, hF⟩ := zg hF
    obtain ⟨g7, hF⟩ := zg hF
    have hF := zl_e hF
    have fk8 : FrN h (pt (pt h2 47 (gt h2 10 l0 7) (gt h2 10 l0 9) l2) 48 (gt (pt h2 47 (gt h2 10 l0 7) (gt h2 10 l0 9) l2) 10 l0 8) (gt (pt h2 47 (gt h2 10 l0 7) (gt h2 10 l0 9) l2) 10 l0 9) l2) := (frpN (frpN ((frrN h).tr (nf_X11_within e2))))
    generalize pt (pt h2 47 (gt h2 10 l0 7) (gt h2 10 l0 9) l2) 48 (gt (pt h2 47 (gt h2 10 l0 7) (gt h2 10 l0 9) l2) 10 l0 8) (gt (pt h2 47 (gt h2 10 l0 7) (gt h2 10 l0 9) l2) 10 l0 9) l2 = k8 at hF fk8
    obtain ⟨_, rfl⟩ := zr hF
    exact (frpN fk8)
theorem n_X10_place_0 {l0 l1 l2 : Int} {h : zH} {r : Int} {h' : zH} (hF : F_X10_place_0 l0 l1 l2 h = some (r, h')) : FrN h h' := by
  unfold F_X10_place_0 at hF
  by_cases c1 : l1 = 11
  · have hF := ip c1 hF
    exact (frrN h).tr (n_X10_place_18 hF)
  · have hF := im c1 hF
    by_cases c2 : l1 = 12
    · have hF := ip c2 hF
      exact (frrN h).tr (n_X10_place_18 hF)
    · have hF := im c2 hF
      by_cases c3 : l1 ≠ 13
      · have hF := ip c3 hF
        by_cases c4 : l1 = 14
        · have hF := ip c4 hF
          exact (frrN h).tr (n_X10_place_81 hF)
        · have hF := im c4 hF
          by_cases c5 : l1 = 15
          · have hF := ip c5 hF
            exact (frrN h).tr (n_X10_place_81 hF)
          · have hF := im c5 hF
            by_cases c6 : l1 ≠ 16
            · have hF := ip c6 hF
              obtain ⟨_, rfl⟩ := zr hF
              exact (frrN h)
            · have hF := im c6 hF
              exact (frrN h).tr (n_X10_place_81 hF)
      · have hF := im c3 hF
        exact (frrN h).tr (n_X10_place_18 hF)
theorem nf_X10_place {l0 l1 l2 : Int} {h : zH} {r : Int} {h' : zH} (hF : F_X10_place l0 l1 l2 h = some (r, h')) : FrN h h' := n_X10_place_0 hF
theorem n_X10_add_0 {l0 l1 l2 l3 : Int} {h : zH} {r : Int} {h' : zH} (hF : F_X10_add_0 l0 l1 l2 l3 h = some (r, h')) : FrN h h' := by
  unfold F_X10_add_0 at hF
  obtain ⟨g1, hF⟩ := zg hF
  obtain ⟨r2, h2, e2, hF⟩ := zb_some hF
  by_cases c3 : r2 ≠ 0
  · have hF := ip c3 hF
    obtain ⟨g4, hF⟩ := zg hF
    obtain ⟨g5, hF⟩ := zg hF
    obtain ⟨g6, hF⟩ := zg hF
    obtain ⟨g7, hF⟩ := zg hF
    have hF := zl_e hF
    have fk8 : FrN h (pt (pt h2 43 (gt h2 10 l0 0) (gt h2 10 l0 4) l1) 44 (gt (pt h2 43 (gt h2 10 l0 0) (gt h2 10 l0 4) l1) 10 l0 1) (gt (pt h2 43 (gt h2 10 l0 0) (gt h2 10 l0 4) l1) 10 l0 4) l2) := (frpN (frpN ((frrN h).tr (nf_X11_within e2))))
    generalize pt (pt h2 43 (gt h2 10 l0 0) (gt h2 10 l0 4) l1) 44 (gt (pt h2 43 (gt h2 10 l0 0) (gt h2 10 l0 4) l1) 10 l0 1) (gt (pt h2 43 (gt h2 10 l0 0) (gt h2 10 l0 4) l1) 10 l0 4) l2 = k8 at hF fk8
    obtain ⟨g9, hF⟩ := zg hF
    obtain ⟨g10, hF⟩ := zg hF
    obtain ⟨g11, hF⟩ := zg hF
    obtain ⟨g12, hF⟩ := zg hF
    have hF := zl_e hF
    have fk13 : FrN h (pt (pt k8 45 (gt k8 10 l0 2) (gt k8 10 l0 4) l3) 46 (gt (pt k8 45 (gt k8 10 l0 2) (gt k8 10 l0 4) l3) 10 l0 3) (gt (pt k8 45 (gt k8 10 l0 2) (gt k8 10 l0 4) l3) 10 l0 4) (-1)) := (frpN (frpN fk8))
    generalize pt (pt k8 45 (gt k8 10 l0 2) (gt k8 10 l0 4) l3) 46 (gt (pt k8 45 (gt k8 10 l0 2) (gt k8 10 l0 4) l3) 10 l0 3) (gt (pt k8 45 (gt k8 10 l0 2) (gt k8 10 l0 4) l3) 10 l0 4) (-1) = k13 at hF fk13
    by_cases c14 : gt (pt k13 10 l0 4 (wI ((gt k13 10 l0 4) + 1))) 10 l0 5 ≠ 0
    · have hF := ip c14 hF
      obtain ⟨_, rfl⟩ := zr hF
      exact (frpN fk13)
    · have hF := im c14 hF
      obtain ⟨r15, h15, e15, hF⟩ := zb_some hF
      by_cases c16 : gt (pt (pt h15 10 l0 5 r15) 10 l0 6 (wI ((gt (pt h15 10 l0 5 r15) 10 l0 4) - 1))) 10 l0 5 ≠ 0
      · have hF := ip c16 hF
        obtain ⟨_, rfl⟩ := zr hF
        exact (frpN (frpN ((frpN fk13).tr (nf_X10_faultOf e15))))
      · have hF := im c16 hF
        obtain ⟨r17, h17, e17, hF⟩ := zb_some hF
        obtain ⟨_, rfl⟩ := zr hF
        exact ((frpN (frpN ((frpN fk13).tr (nf_X10_faultOf e15)))).tr (nf_X10_place e17))
  · have hF := im c3 hF
    obtain ⟨_, rfl⟩ := zr hF
    exact ((frrN h).tr (nf_X11_within e2))
theorem nf_X10_add {l0 l1 l2 l3 : Int} {h : zH} {r : Int} {h' : zH} (hF : F_X10_add l0 l1 l2 l3 h = some (r, h')) : FrN h h' := n_X10_add_0 hF
theorem n_X11_line_0 {l0 l1 l2 l3 l4 : Int} {h : zH} {r : Int} {h' : zH} (hF : F_X11_line_0 l0 l1 l2 l3 l4 h = some (r, h')) : FrN h h' := by
  unfold F_X11_line_0 at hF
  obtain ⟨g1, hF⟩ := zg hF
  obtain ⟨r2, h2, e2, hF⟩ := zb_some hF
  by_cases c3 : r2 ≠ -1
  · have hF := ip c3 hF
    obtain ⟨g5, hF⟩ := zg hF
    obtain ⟨r4, h4, e4, hF⟩ := zb_some hF
    obtain ⟨_, rfl⟩ := zr hF
    exact (((frrN h).tr (nf_X11_findScript e2)).tr (nf_X10_add e4))
  · have hF := im c3 hF
    obtain ⟨_, rfl⟩ := zr hF
    exact ((frrN h).tr (nf_X11_findScript e2))
theorem nf_X11_line {l0 l1 l2 l3 l4 : Int} {h : zH} {r : Int} {h' : zH} (hF : F_X11_line l0 l1 l2 l3 l4 h = some (r, h')) : FrN h h' := n_X11_line_0 hF
theorem n_X10_clear_0 {l0 : Int} {h : zH} {r : Int} {h' : zH} (hF : F_X10_clear_0 l0 h = some (r, h')) : FrN h h' := by
  unfold F_X10_clear_0 at hF
  obtain ⟨g1, hF⟩ := zg hF
  obtain ⟨_, rfl⟩ := zr hF
  exact (frpN (frpN (frpN (frrN h))))
theorem nf_X10_clear {l0 : Int} {h : zH} {r : Int} {h' : zH} (hF : F_X10_clear l0 h = some (r, h')) : FrN h h' := n_X10_clear_0 hF
theorem n_X11_wipe_0 {l0 l1 : Int} {h : zH} {r : Int} {h' : zH} (hF : F_X11_wipe_0 l0 l1 h = some (r, h')) : FrN h h' := by
  unfold F_X11_wipe_0 at hF
  obtain ⟨g1, hF⟩ := zg hF
  obtain ⟨r2, h2, e2, hF⟩ := zb_some hF
  by_cases c3 : r2 ≠ -1
  · have hF := ip c3 hF
    obtain ⟨g5, hF⟩ := zg hF
    obtain ⟨r4, h4, e4, hF⟩ := zb_some hF
    obtain ⟨_, rfl⟩ := zr hF
    exact (((frrN h).tr (nf_X11_findScript e2)).tr (nf_X10_clear e4))
  · have hF := im c3 hF
    obtain ⟨_, rfl⟩ := zr hF
    exact ((frrN h).tr (nf_X11_findScript e2))
theorem nf_X11_wipe {l0 l1 : Int} {h : zH} {r : Int} {h' : zH} (hF : F_X11_wipe l0 l1 h = some (r, h')) : FrN h h' := n_X11_wipe_0 hF
theorem n_X10_faultNumber_0 {l0 : Int} {h : zH} {r : Int} {h' : zH} (hF : F_X10_faultNumber_0 l0 h = some (r, h')) : FrN h h' := by
  unfold F_X10_faultNumber_0 at hF
  obtain ⟨g1, hF⟩ := zg hF
  by_cases c2 : gt h 10 l0 5 ≠ 0
  · have hF := ip c2 hF
    obtain ⟨_, rfl⟩ := zr hF
    exact (frrN h)
  · have hF := im c2 hF
    by_cases c3 : gt h 10 l0 9 ≤ 0
    · have hF := ip c3 hF
      obtain ⟨_, rfl⟩ := zr hF
      exact (frrN h)
    · have hF := im c3 hF
      obtain ⟨_, rfl⟩ := zr hF
      exact (frrN h)
theorem nf_X10_faultNumber {l0 : Int} {h : zH} {r : Int} {h' : zH} (hF : F_X10_faultNumber l0 h = some (r, h')) : FrN h h' := n_X10_faultNumber_0 hF
theorem n_X10_faultLine_0 {l0 : Int} {h : zH} {r : Int} {h' : zH} (hF : F_X10_faultLine_0 l0 h = some (r, h')) : FrN h h' := by
  unfold F_X10_faultLine_0 at hF
  obtain ⟨g1, hF⟩ := zg hF
  by_cases c2 : gt h 10 l0 5 = 0
  · have hF := ip c2 hF
    by_cases c3 : gt h 10 l0 9 ≤ 0
    · have hF := ip c3 hF
      obtain ⟨_, rfl⟩ := zr hF
      exact (frrN h)
    · have hF := im c3 hF
      obtain ⟨_, rfl⟩ := zr hF
      exact (frrN h)
  · have hF := im c2 hF
    obtain ⟨_, rfl⟩ := zr hF
    exact (frrN h)
theorem nf_X10_faultLine {l0 : Int} {h : zH} {r : Int} {h' : zH} (hF : F_X10_faultLine l0 h = some (r, h')) : FrN h h' := n_X10_faultLine_0 hF
theorem n_X11_fault_0 {l0 l1 l2 : Int} {h : zH} {r : Int} {h' : zH} (hF : F_X11_fault_0 l0 l1 l2 h = some (r, h')) : FrN h h' := by
  unfold F_X11_fault_0 at hF
  obtain ⟨g1, hF⟩ := zg hF
  obtain ⟨r2, h2, e2, hF⟩ := zb_some hF
  by_cases c3 : r2 ≠ -1
  · have hF := ip c3 hF
    obtain ⟨r4, h4, e4, hF⟩ := zb_some hF
    by_cases c5 : r4 ≠ 0
    · have hF := ip c5 hF
      by_cases c6 : l2 ≠ 0
      · have hF := ip c6 hF
        obtain ⟨g8, hF⟩ := zg hF
        obtain ⟨r7, h7, e7, hF⟩ := zb_some hF
        obtain ⟨_, rfl⟩ := zr hF
        exact ((((frrN h).tr (nf_X11_findScript e2)).tr (nf_X11_within e4)).tr (nf_X10_faultLine e7))
      · have hF := im c6 hF
        obtain ⟨g10, hF⟩ := zg hF
        obtain ⟨r9, h9, e9, hF⟩ := zb_some hF
        obtain ⟨_, rfl⟩ := zr hF
        exact ((((frrN h).tr (nf_X11_findScript e2)).tr (nf_X11_within e4)).tr (nf_X10_faultNumber e9))
    · have hF := im c5 hF
      obtain ⟨_, rfl⟩ := zr hF
      exact (((frrN h).tr (nf_X11_findScript e2)).tr (nf_X11_within e4))
  · have hF := im c3 hF
    obtain ⟨_, rfl⟩ := zr hF
    exact ((frrN h).tr (nf_X11_findScript e2))
theorem nf_X11_fault {l0 l1 l2 : Int} {h : zH} {r : Int} {h' : zH} (hF : F_X11_fault l0 l1 l2 h = some (r, h')) : FrN h h' := n_X11_fault_0 hF
theorem n_X8_reset_0 {l0 l1 : Int} {h : zH} {r : Int} {h' : zH} (hF : F_X8_reset_0 l0 l1 h = some (r, h')) : FrN h h' := by
  unfold F_X8_reset_0 at hF
  obtain ⟨g1, hF⟩ := zg hF
  obtain ⟨g2, hF⟩ := zg hF
  have hF := zl_e hF
  have fk3 : FrN h (pt (pt (pt (pt (pt (pt h 8 l0 11 l1) 8 l0 3 0) 8 l0 5 0) 8 l0 7 0) 8 l0 9 0) 2 (gt (pt (pt (pt (pt (pt h 8 l0 11 l1) 8 l0 3 0) 8 l0 5 0) 8 l0 7 0) 8 l0 9 0) 8 l0 10) 6 0) := (frpN (frpN (frpN (frpN (frpN (frpN (frrN h)))))))
  generalize pt (pt (pt (pt (pt (pt h 8 l0 11 l1) 8 l0 3 0) 8 l0 5 0) 8 l0 7 0) 8 l0 9 0) 2 (gt (pt (pt (pt (pt (pt h 8 l0 11 l1) 8 l0 3 0) 8 l0 5 0) 8 l0 7 0) 8 l0 9 0) 8 l0 10) 6 0 = k3 at hF fk3
  obtain ⟨_, rfl⟩ := zr hF
  exact (frpN (frpN (frpN (frpN (frpN fk3)))))
theorem nf_X8_reset {l0 l1 : Int} {h : zH} {r : Int} {h' : zH} (hF : F_X8_reset l0 l1 h = some (r, h')) : FrN h h' := n_X8_reset_0 hF
theorem n_X1_begin_18b {ag18 : Int → Int → Int → zH → zO} (hag18 : ∀ (l0 l3 l4 : Int) (h : zH) (r : Int) (h' : zH), ag18 l0 l3 l4 h = some (r, h') → FrN h h') {l0 l3 l4 : Int} {h : zH} {r : Int} {h' : zH} (hF : F_X1_begin_18b ag18 l0 l3 l4 h = some (r, h')) : FrN h h' := by
  unfold F_X1_begin_18b at hF
  by_cases c1 : 8 ≤ l4
  · have hF := ip c1 hF
    obtain ⟨g2, hF⟩ := zg hF
    obtain ⟨g3, hF⟩ := zg hF
    obtain ⟨_, rfl⟩ := zr hF
    exact (frpN (frrN h))
  · have hF := im c1 hF
    obtain ⟨g4, hF⟩ := zg hF
    obtain ⟨g5, hF⟩ := zg hF
    obtain ⟨g6, hF⟩ := zg hF
    exact (frpN (frrN h)).tr (hag18 _ _ _ _ _ _ hF)
theorem n_X1_begin_18 : ∀ (n : Nat) (l0 l3 l4 : Int) (h : zH) (r : Int) (h' : zH), F_X1_begin_18 n l0 l3 l4 h = some (r, h') → FrN h h'
  | 0, _, _, _, _, _, _, hF => by cases hF
  | n + 1, _, _, _, _, _, _, hF => n_X1_begin_18b (n_X1_begin_18 n) hF
theorem n_X1_begin_0 {l0 l1 l2 l3 : Int} {h : zH} {r : Int} {h' : zH} (hF : F_X1_begin_0 l0 l1 l2 l3 h = some (r, h')) : FrN h h' := by
  unfold F_X1_begin_0 at hF
  obtain ⟨g1, hF⟩ := zg hF
  exact (frpN (frpN (frpN (frrN h)))).tr (n_X1_begin_18 _ _ _ _ _ _ _ hF)
theorem nf_X1_begin {l0 l1 l2 l3 : Int} {h : zH} {r : Int} {h' : zH} (hF : F_X1_begin l0 l1 l2 l3 h = some (r, h')) : FrN h h' := n_X1_begin_0 hF
theorem n_X0_begin_0 {l0 l1 l2 l3 : Int} {h : zH} {r : Int} {h' : zH} (hF : F_X0_begin_0 l0 l1 l2 l3 h = some (r, h')) : FrN h h' := by
  unfold F_X0_begin_0 at hF
  obtain ⟨g1, hF⟩ := zg hF
  obtain ⟨_, rfl⟩ := zr hF
  exact (frpN (frpN (frpN (frpN (frpN (frpN (frpN (frrN h))))))))
theorem nf_X0_begin {l0 l1 l2 l3 : Int} {h : zH} {r : Int} {h' : zH} (hF : F_X0_begin l0 l1 l2 l3 h = some (r, h')) : FrN h h' := n_X0_begin_0 hF
theorem n_X8_push_0 {l0 l1 l2 l3 : Int} {h : zH} {r : Int} {h' : zH} (hF : F_X8_push_0 l0 l1 l2 l3 h = some (r, h')) : FrN h h' := by
  unfold F_X8_push_0 at hF
  obtain ⟨g1, hF⟩ := zg hF
  by_cases c2 : 90 ≤ gt h 8 l0 5
  · have hF := ip c2 hF
    obtain ⟨_, rfl⟩ := zr hF
    exact (frrN h)
  · have hF := im c2 hF
    obtain ⟨g3, hF⟩ := zg hF
    obtain ⟨g4, hF⟩ := zg hF
    obtain ⟨g6, hF⟩ := zg hF
    obtain ⟨r5, h5, e5, hF⟩ := zb_some hF
    obtain ⟨_, rfl⟩ := zr hF
    exact ((frpN (frrN h)).tr (nf_X0_begin e5))
theorem nf_X8_push {l0 l1 l2 l3 : Int} {h : zH} {r : Int} {h' : zH} (hF : F_X8_push l0 l1 l2 l3 h = some (r, h')) : FrN h h' := n_X8_push_0 hF
theorem n_X9_begin_0 {l0 l1 l2 : Int} {h : zH} {r : Int} {h' : zH} (hF : F_X9_begin_0 l0 l1 l2 h = some (r, h')) : FrN h h' := by
  unfold F_X9_begin_0 at hF
  obtain ⟨g1, hF⟩ := zg hF
  obtain ⟨_, rfl⟩ := zr hF
  exact (frpN (frpN (frpN (frrN h))))
theorem nf_X9_begin {l0 l1 l2 : Int} {h : zH} {r : Int} {h' : zH} (hF : F_X9_begin l0 l1 l2 h = some (r, h')) : FrN h h' := n_X9_begin_0 hF
theorem n_X8_openScope_0 {l0 l1 l2 : Int} {h : zH} {r : Int} {h' : zH} (hF : F_X8_openScope_0 l0 l1 l2 h = some (r, h')) : FrN h h' := by
  unfold F_X8_openScope_0 at hF
  obtain ⟨g1, hF⟩ := zg hF
  by_cases c2 : 90 ≤ gt h 8 l0 7
  · have hF := ip c2 hF
    obtain ⟨_, rfl⟩ := zr hF
    exact (frrN h)
  · have hF := im c2 hF
    obtain ⟨g3, hF⟩ := zg hF
    obtain ⟨g4, hF⟩ := zg hF
    obtain ⟨g6, hF⟩ := zg hF
    obtain ⟨r5, h5, e5, hF⟩ := zb_some hF
    obtain ⟨_, rfl⟩ := zr hF
    exact ((frpN (frrN h)).tr (nf_X9_begin e5))
theorem nf_X8_openScope {l0 l1 l2 : Int} {h : zH} {r : Int} {h' : zH} (hF : F_X8_openScope l0 l1 l2 h = some (r, h')) : FrN h h' := n_X8_openScope_0 hF
theorem n_X8_enter_0 {l0 l1 l2 l3 : Int} {h : zH} {r : Int} {h' : zH} (hF : F_X8_enter_0 l0 l1 l2 l3 h = some (r, h')) : FrN h h' := by
  unfold F_X8_enter_0 at hF
  by_cases c1 : l1 = -1
  · have hF := ip c1 hF
    obtain ⟨_, rfl⟩ := zr hF
    exact (frrN h)
  · have hF := im c1 hF
    obtain ⟨g2, hF⟩ := zg hF
    by_cases c3 : 10 ≤ gt h 8 l0 3
    · have hF := ip c3 hF
      obtain ⟨_, rfl⟩ := zr hF
      exact (frrN h)
    · have hF := im c3 hF
      obtain ⟨g4, hF⟩ := zg hF
      obtain ⟨g5, hF⟩ := zg hF
      obtain ⟨g7, hF⟩ := zg hF
      obtain ⟨r6, h6, e6, hF⟩ := zb_some hF
      obtain ⟨r8, h8, e8, hF⟩ := zb_some hF
      obtain ⟨r9, h9, e9, hF⟩ := zb_some hF
      obtain ⟨_, rfl⟩ := zr hF
      exact ((((frpN (frrN h)).tr (nf_X1_begin e6)).tr (nf_X8_push e8)).tr (nf_X8_openScope e9))
theorem nf_X8_enter {l0 l1 l2 l3 : Int} {h : zH} {r : Int} {h' : zH} (hF : F_X8_enter l0 l1 l2 l3 h = some (r, h')) : FrN h h' := n_X8_enter_0 hF
theorem n_X4_leaveScope_57 {l0 : Int} {h : zH} {r : Int} {h' : zH} (hF : F_X4_leaveScope_57 l0 h = some (r, h')) : FrN h h' := by
  unfold F_X4_leaveScope_57 at hF
  obtain ⟨g1, hF⟩ := zg hF
  obtain ⟨_, rfl⟩ := zr hF
  exact (frpN (frpN (frpN (frrN h))))
theorem n_X4_leaveScope_18 {l0 : Int} {h : zH} {r : Int} {h' : zH} (hF : F_X4_leaveScope_18 l0 h = some (r, h')) : FrN h h' := by
  unfold F_X4_leaveScope_18 at hF
  obtain ⟨g1, hF⟩ := zg hF
  by_cases c2 : gt h 4 l0 7 = -1
  · have hF := ip c2 hF
    by_cases c3 : gt h 4 l0 5 = -1
    · have hF := ip c3 hF
      exact (frrN h).tr (n_X4_leaveScope_57 hF)
    · have hF := im c3 hF
      obtain ⟨g4, hF⟩ := zg hF
      exact (frpN (frrN h)).tr (n_X4_leaveScope_57 hF)
  · have hF := im c2 hF
    obtain ⟨g5, hF⟩ := zg hF
    exact (frpN (frrN h)).tr (n_X4_leaveScope_57 hF)
theorem n_X4_leaveScope_0 {l0 : Int} {h : zH} {r : Int} {h' : zH} (hF : F_X4_leaveScope_0 l0 h = some (r, h')) : FrN h h' := by
  unfold F_X4_leaveScope_0 at hF
  obtain ⟨g1, hF⟩ := zg hF
  by_cases c2 : gt h 4 l0 6 = -1
  · have hF := ip c2 hF
    exact (frrN h).tr (n_X4_leaveScope_18 hF)
  · have hF := im c2 hF
    obtain ⟨g3, hF⟩ := zg hF
    exact (frpN (frrN h)).tr (n_X4_leaveScope_18 hF)
theorem nf_X4_leaveScope {l0 : Int} {h : zH} {r : Int} {h' : zH} (hF : F_X4_leaveScope l0 h = some (r, h')) : FrN h h' := n_X4_leaveScope_0 hF
theorem n_X4_close_0 {l0 : Int} {h : zH} {r : Int} {h' : zH} (hF : F_X4_close_0 l0 h = some (r, h')) : FrN h h' := by
  unfold F_X4_close_0 at hF
  obtain ⟨g1, hF⟩ := zg hF
  obtain ⟨r2, h2, e2, hF⟩ := zb_some hF
  by_cases c3 : gt h2 4 l0 3 = -1
  · have hF := ip c3 hF
    obtain ⟨_, rfl⟩ := zr hF
    exact ((frpN (frrN h)).tr (nf_X4_leaveScope e2))
  · have hF := im c3 hF
    obtain ⟨g4, hF⟩ := zg hF
    obtain ⟨_, rfl⟩ := zr hF
    exact (frpN ((frpN (frrN h)).tr (nf_X4_leaveScope e2)))
theorem nf_X4_close {l0 : Int} {h : zH} {r : Int} {h' : zH} (hF : F_X4_close l0 h = some (r, h')) : FrN h h' := n_X4_close_0 hF
theorem n_X7_meets_51 {ag11 : Int → Int → Int → Int → Int → Int → zH → zO} (hag11 : ∀ (l0 l1 l2 l3 l4 l5 : Int) (h : zH) (r : Int) (h' : zH), ag11 l0 l1 l2 l3 l4 l5 h = some (r, h') → FrN h h') {l0 l1 l2 l3 l4 l5 : Int} {h : zH} {r : Int} {h' : zH} (hF : F_X7_meets_51 ag11 l0 l1 l2 l3 l4 l5 h = some (r, h')) : FrN h h' := by
  unfold F_X7_meets_51 at hF
  obtain ⟨g1, hF⟩ := zg hF
  obtain ⟨g2, hF⟩ := zg hF
  obtain ⟨g3, hF⟩ := zg hF
  by_cases c4 : gt h 37 (gt h 7 l0 1) l5 ≤ 0
  · have hF := ip c4 hF
    exact (frrN h).tr (hag11 _ _ _ _ _ _ _ _ _ hF)
  · have hF := im c4 hF
    obtain ⟨g5, hF⟩ := zg hF
    obtain ⟨g6, hF⟩ := zg hF
    obtain ⟨g7, hF⟩ := zg hF
    have hF := zl_e hF
    have fk8 : FrN h (pt (pt h 36 (gt h 7 l0 0) l3 (gt h 36 (gt h 7 l0 0) l5)) 37 (gt (pt h 36 (gt h 7 l0 0) l3 (gt h 36 (gt h 7 l0 0) l5)) 7 l0 1) l3 (gt (pt h 36 (gt h 7 l0 0) l3 (gt h 36 (gt h 7 l0 0) l5)) 37 (gt (pt h 36 (gt h 7 l0 0) l3 (gt h 36 (gt h 7 l0 0) l5)) 7 l0 1) l5)) := (frpN (frpN (frrN h)))
    generalize pt (pt h 36 (gt h 7 l0 0) l3 (gt h 36 (gt h 7 l0 0) l5)) 37 (gt (pt h 36 (gt h 7 l0 0) l3 (gt h 36 (gt h 7 l0 0) l5)) 7 l0 1) l3 (gt (pt h 36 (gt h 7 l0 0) l3 (gt h 36 (gt h 7 l0 0) l5)) 37 (gt (pt h 36 (gt h 7 l0 0) l3 (gt h 36 (gt h 7 l0 0) l5)) 7 l0 1) l5) = k8 at hF fk8
    obtain ⟨g9, hF⟩ := zg hF
    exact (frpN fk8).tr (hag11 _ _ _ _ _ _ _ _ _ hF)
theorem n_X7_meets_11b {ag11 : Int → Int → Int → Int → Int → Int → zH → zO} (hag11 : ∀ (l0 l1 l2 l3 l4 l5 : Int) (h : zH) (r : Int) (h' : zH), ag11 l0 l1 l2 l3 l4 l5 h = some (r, h') → FrN h h') {l0 l1 l2 l3 l4 l5 : Int} {h : zH} {r : Int} {h' : zH} (hF : F_X7_meets_11b ag11 l0 l1 l2 l3 l4 l5 h = some (r, h')) : FrN h h' := by
  unfold F_X7_meets_11b at hF
  by_cases c1 : l4 ≤ l5
  · have hF := ip c1 hF
    obtain ⟨g2, hF⟩ := zg hF
    by_cases c3 : l4 ≤ l3
    · have hF := ip c3 hF
      obtain ⟨_, rfl⟩ := zr hF
      exact (frpN (frrN h))
    · have hF := im c3 hF
      obtain ⟨_, rfl⟩ := zr hF
      exact (frpN (frrN h))
  · have hF := im c1 hF
    obtain ⟨g4, hF⟩ := zg hF
    obtain ⟨g5, hF⟩ := zg hF
    obtain ⟨g6, hF⟩ := zg hF
    by_cases c7 : gt h 36 (gt h 7 l0 0) l5 ≠ l1
    · have hF := ip c7 hF
      exact (frrN h).tr (n_X7_meets_51 hag11 hF)
    · have hF := im c7 hF
      obtain ⟨g8, hF⟩ := zg hF
      by_cases c9 : gt h 38 (gt h 7 l0 2) l5 ≠ l2
      · have hF := ip c9 hF
        exact (frrN h).tr (n_X7_meets_51 hag11 hF)
      · have hF := im c9 hF
        obtain ⟨g10, hF⟩ := zg hF
        exact (frpN (frrN h)).tr (n_X7_meets_51 hag11 hF)
theorem n_X7_meets_11 : ∀ (n : Nat) (l0 l1 l2 l3 l4 l5 : Int) (h : zH) (r : Int) (h' : zH), F_X7_meets_11 n l0 l1 l2 l3 l4 l5 h = some (r, h') → FrN h h'
  | 0, _, _, _, _, _, _, _, _, _, hF => by cases hF
  | n + 1, _, _, _, _, _, _, _, _, _, hF => n_X7_meets_11b (n_X7_meets_11 n) hF
theorem n_X7_meets_0 {l0 l1 l2 : Int} {h : zH} {r : Int} {h' : zH} (hF : F_X7_meets_0 l0 l1 l2 h = some (r, h')) : FrN h h' := by
  unfold F_X7_meets_0 at hF
  obtain ⟨g1, hF⟩ := zg hF
  exact (frrN h).tr (n_X7_meets_11 _ _ _ _ _ _ _ _ _ _ hF)
theorem nf_X7_meets {l0 l1 l2 : Int} {h : zH} {r : Int} {h' : zH} (hF : F_X7_meets l0 l1 l2 h = some (r, h')) : FrN h h' := n_X7_meets_0 hF
theorem n_X3_holdNoMore_4b {ag4 : Int → Int → Int → Int → zH → zO} (hag4 : ∀ (l0 l1 l2 l3 : Int) (h : zH) (r : Int) (h' : zH), ag4 l0 l1 l2 l3 h = some (r, h') → FrN h h') {l0 l1 l2 l3 : Int} {h : zH} {r : Int} {h' : zH} (hF : F_X3_holdNoMore_4b ag4 l0 l1 l2 l3 h = some (r, h')) : FrN h h' := by
  unfold F_X3_holdNoMore_4b at hF
  obtain ⟨g1, hF⟩ := zg hF
  by_cases c2 : gt h 3 l0 5 ≤ l3
  · have hF := ip c2 hF
    obtain ⟨_, rfl⟩ := zr hF
    exact (frpN (frrN h))
  · have hF := im c2 hF
    obtain ⟨g3, hF⟩ := zg hF
    obtain ⟨g4, hF⟩ := zg hF
    obtain ⟨g5, hF⟩ := zg hF
    by_cases c6 : gt h 29 (gt h 3 l0 4) l3 = gt h 6 l1 0
    · have hF := ip c6 hF
      exact (frrN h).tr (hag4 _ _ _ _ _ _ _ hF)
    · have hF := im c6 hF
      obtain ⟨g7, hF⟩ := zg hF
      exact (frpN (frrN h)).tr (hag4 _ _ _ _ _ _ _ hF)
theorem n_X3_holdNoMore_4 : ∀ (n : Nat) (l0 l1 l2 l3 : Int) (h : zH) (r : Int) (h' : zH), F_X3_holdNoMore_4 n l0 l1 l2 l3 h = some (r, h') → FrN h h'
  | 0, _, _, _, _, _, _, _, hF => by cases hF
  | n + 1, _, _, _, _, _, _, _, hF => n_X3_holdNoMore_4b (n_X3_holdNoMore_4 n) hF
theorem n_X3_holdNoMore_0 {l0 l1 : Int} {h : zH} {r : Int} {h' : zH} (hF : F_X3_holdNoMore_0 l0 l1 h = some (r, h')) : FrN h h' := by
  unfold F_X3_holdNoMore_0 at hF
  exact (frrN h).tr (n_X3_holdNoMore_4 _ _ _ _ _ _ _ _ hF)
theorem nf_X3_holdNoMore {l0 l1 : Int} {h : zH} {r : Int} {h' : zH} (hF : F_X3_holdNoMore l0 l1 h = some (r, h')) : FrN h h' := n_X3_holdNoMore_0 hF
theorem n_X3_charge_0 {l0 l1 : Int} {h : zH} {r : Int} {h' : zH} (hF : F_X3_charge_0 l0 l1 h = some (r, h')) : FrN h h' := by
  unfold F_X3_charge_0 at hF
  obtain ⟨g1, hF⟩ := zg hF
  by_cases c2 : gt h 6 l1 4 < 0
  · have hF := ip c2 hF
    obtain ⟨_, rfl⟩ := zr hF
    exact (frrN h)
  · have hF := im c2 hF
    by_cases c3 : 8 ≤ gt h 6 l1 4
    · have hF := ip c3 hF
      obtain ⟨_, rfl⟩ := zr hF
      exact (frrN h)
    · have hF := im c3 hF
      obtain ⟨g4, hF⟩ := zg hF
      obtain ⟨g5, hF⟩ := zg hF
      obtain ⟨g6, hF⟩ := zg hF
      obtain ⟨_, rfl⟩ := zr hF
      exact (frpN (frrN h))
theorem nf_X3_charge {l0 l1 : Int} {h : zH} {r : Int} {h' : zH} (hF : F_X3_charge l0 l1 h = some (r, h')) : FrN h h' := n_X3_charge_0 hF
theorem n_X3_toCleaning_0 {l0 l1 : Int} {h : zH} {r : Int} {h' : zH} (hF : F_X3_toCleaning_0 l0 l1 h = some (r, h')) : FrN h h' := by
  unfold F_X3_toCleaning_0 at hF
  obtain ⟨g1, hF⟩ := zg hF
  by_cases c2 : 60 ≤ gt h 3 l0 3
  · have hF := ip c2 hF
    obtain ⟨_, rfl⟩ := zr hF
    exact (frrN h)
  · have hF := im c2 hF
    obtain ⟨g3, hF⟩ := zg hF
    obtain ⟨g4, hF⟩ := zg hF
    obtain ⟨g5, hF⟩ := zg hF
    have hF := zl_e hF
    have fk6 : FrN h (pt (pt h 28 (gt h 3 l0 2) (gt h 3 l0 3) (gt h 6 l1 0)) 3 l0 3 (wI ((gt (pt h 28 (gt h 3 l0 2) (gt h 3 l0 3) (gt h 6 l1 0)) 3 l0 3) + 1))) := (frpN (frpN (frrN h)))
    generalize pt (pt h 28 (gt h 3 l0 2) (gt h 3 l0 3) (gt h 6 l1 0)) 3 l0 3 (wI ((gt (pt h 28 (gt h 3 l0 2) (gt h 3 l0 3) (gt h 6 l1 0)) 3 l0 3) + 1)) = k6 at hF fk6
    obtain ⟨_, rfl⟩ := zr hF
    exact fk6
theorem nf_X3_toCleaning {l0 l1 : Int} {h : zH} {r : Int} {h' : zH} (hF : F_X3_toCleaning l0 l1 h = some (r, h')) : FrN h h' := n_X3_toCleaning_0 hF
theorem n_X5_add_0 {l0 l1 l2 l3 : Int} {h : zH} {r : Int} {h' : zH} (hF : F_X5_add_0 l0 l1 l2 l3 h = some (r, h')) : FrN h h' := by
  unfold F_X5_add_0 at hF
  obtain ⟨g1, hF⟩ := zg hF
  by_cases c2 : 59 ≤ gt h 5 l0 4
  · have hF := ip c2 hF
    obtain ⟨g3, hF⟩ := zg hF
    obtain ⟨g4, hF⟩ := zg hF
    obtain ⟨g5, hF⟩ := zg hF
    obtain ⟨g6, hF⟩ := zg hF
    have hF := zl_e hF
    have fk7 : FrN h (pt (pt (pt h 5 l0 4 0) 31 (gt (pt h 5 l0 4 0) 5 l0 0) (gt (pt h 5 l0 4 0) 5 l0 4) l1) 32 (gt (pt (pt h 5 l0 4 0) 31 (gt (pt h 5 l0 4 0) 5 l0 0) (gt (pt h 5 l0 4 0) 5 l0 4) l1) 5 l0 1) (gt (pt (pt h 5 l0 4 0) 31 (gt (pt h 5 l0 4 0) 5 l0 0) (gt (pt h 5 l0 4 0) 5 l0 4) l1) 5 l0 4) l2) := (frpN (frpN (frpN (frrN h))))
    generalize pt (pt (pt h 5 l0 4 0) 31 (gt (pt h 5 l0 4 0) 5 l0 0) (gt (pt h 5 l0 4 0) 5 l0 4) l1) 32 (gt (pt (pt h 5 l0 4 0) 31 (gt (pt h 5 l0 4 0) 5 l0 0) (gt (pt h 5 l0 4 0) 5 l0 4) l1) 5 l0 1) (gt (pt (pt h 5 l0 4 0) 31 (gt (pt h 5 l0 4 0) 5 l0 0) (gt (pt h 5 l0 4 0) 5 l0 4) l1) 5 l0 4) l2 = k7 at hF fk7
    by_cases c8 : l3 = 0
    · have hF := ip c8 hF
      obtain ⟨g9, hF⟩ := zg hF
      obtain ⟨g10, hF⟩ := zg hF
      by_cases c11 : 60 ≤ gt (pt k7 33 (gt k7 5 l0 2) (gt k7 5 l0 4) 0) 5 l0 3
      · have hF := ip c11 hF
        obtain ⟨_, rfl⟩ := zr hF
        exact (frpN fk7)
      · have hF := im c11 hF
        obtain ⟨_, rfl⟩ := zr hF
        exact (frpN (frpN fk7))
    · have hF := im c8 hF
      obtain ⟨g12, hF⟩ := zg hF
      obtain ⟨g13, hF⟩ := zg hF
      by_cases c14 : 60 ≤ gt (pt k7 33 (gt k7 5 l0 2) (gt k7 5 l0 4) 1) 5 l0 3
      · have hF := ip c14 hF
        obtain ⟨_, rfl⟩ := zr hF
        exact (frpN fk7)
      · have hF := im c14 hF
        obtain ⟨_, rfl⟩ := zr hF
        exact (frpN (frpN fk7))
  · have hF := im c2 hF
    obtain ⟨g15, hF⟩ := zg hF
    obtain ⟨g16, hF⟩ := zg hF
    have hF := zl_e hF
    have fk17 : FrN h (pt (pt h 5 l0 4 (wI ((gt h 5 l0 4) + 1))) 31 (gt (pt h 5 l0 4 (wI ((gt h 5 l0 4) + 1))) 5 l0 0) (gt (pt h 5 l0 4 (wI ((gt h 5 l0 4) + 1))) 5 l0 4) l1) := (frpN (frpN (frrN h)))
    generalize pt (pt h 5 l0 4 (wI ((gt h 5 l0 4) + 1))) 31 (gt (pt h 5 l0 4 (wI ((gt h 5 l0 4) + 1))) 5 l0 0) (gt (pt h 5 l0 4 (wI ((gt h 5 l0 4) + 1))) 5 l0 4) l1 = k17 at hF fk17
    obtain ⟨g18, hF⟩ := zg hF
    obtain ⟨g19, hF⟩ := zg hF
    by_cases c20 : l3 = 0
    · have hF := ip c20 hF
      obtain ⟨g21, hF⟩ := zg hF
      obtain ⟨g22, hF⟩ := zg hF
      have hF := zl_e hF
      have fk23 : FrN h (pt (pt k17 32 (gt k17 5 l0 1) (gt k17 5 l0 4) l2) 33 (gt (pt k17 32 (gt k17 5 l0 1) (gt k17 5 l0 4) l2) 5 l0 2) (gt (pt k17 32 (gt k17 5 l0 1) (gt k17 5 l0 4) l2) 5 l0 4) 0) := (frpN (frpN fk17))
      generalize pt (pt k17 32 (gt k17 5 l0 1) (gt k17 5 l0 4) l2) 33 (gt (pt k17 32 (gt k17 5 l0 1) (gt k17 5 l0 4) l2) 5 l0 2) (gt (pt k17 32 (gt k17 5 l0 1) (gt k17 5 l0 4) l2) 5 l0 4) 0 = k23 at hF fk23
      by_cases c24 : 60 ≤ gt k23 5 l0 3
      · have hF := ip c24 hF
        obtain ⟨_, rfl⟩ := zr hF
        exact fk23
      · have hF := im c24 hF
        obtain ⟨_, rfl⟩ := zr hF
        exact (frpN fk23)
    · have hF := im c20 hF
      obtain ⟨g25, hF⟩ := zg hF
      obtain ⟨g26, hF⟩ := zg hF
      have hF := zl_e hF
      have fk27 : FrN h (pt (pt k17 32 (gt k17 5 l0 1) (gt k17 5 l0 4) l2) 33 (gt (pt k17 32 (gt k17 5 l0 1) (gt k17 5 l0 4) l2) 5 l0 2) (gt (pt k17 32 (gt k17 5 l0 1) (gt k17 5 l0 4) l2) 5 l0 4) 1) := (frpN (frpN fk17))
      generalize pt (pt k17 32 (gt k17 5 l0 1) (gt k17 5 l0 4) l2) 33 (gt (pt k17 32 (gt k17 5 l0 1) (gt k17 5 l0 4) l2) 5 l0 2) (gt (pt k17 32 (gt k17 5 l0 1) (gt k17 5 l0 4) l2) 5 l0 4) 1 = k27 at hF fk27
      by_cases c28 : 60 ≤ gt k27 5 l0 3
      · have hF := ip c28 hF
        obtain ⟨_, rfl⟩ := zr hF
        exact fk27
      · have hF := im c28 hF
        obtain ⟨_, rfl⟩ := zr hF
        exact (frpN fk27)
theorem nf_X5_add {l0 l1 l2 l3 : Int} {h : zH} {r : Int} {h' : zH} (hF : F_X5_add l0 l1 l2 l3 h = some (r, h')) : FrN h h' := n_X5_add_0 hF
theorem n_X3_takeBack_45 {l0 l1 l2 l3 : Int} {h : zH} {r : Int} {h' : zH} (hF : F_X3_takeBack_45 l0 l1 l2 l3 h = some (r, h')) : FrN h h' := by
  unfold F_X3_takeBack_45 at hF
  obtain ⟨g1, hF⟩ := zg hF
  obtain ⟨g2, hF⟩ := zg hF
  obtain ⟨g4, hF⟩ := zg hF
  obtain ⟨r3, h3, e3, hF⟩ := zb_some hF
  obtain ⟨_, hF⟩ := zg hF
  obtain ⟨_, rfl⟩ := zr hF
  exact ((frrN h).tr (nf_X5_add e3))
theorem n_X3_takeBack_0 {l0 l1 l2 : Int} {h : zH} {r : Int} {h' : zH} (hF : F_X3_takeBack_0 l0 l1 l2 h = some (r, h')) : FrN h h' := by
  unfold F_X3_takeBack_0 at hF
  obtain ⟨g1, hF⟩ := zg hF
  obtain ⟨g2, hF⟩ := zg hF
  obtain ⟨g4, hF⟩ := zg hF
  obtain ⟨r3, h3, e3, hF⟩ := zb_some hF
  obtain ⟨r5, h5, e5, hF⟩ := zb_some hF
  by_cases c6 : r3 = 0
  · have hF := ip c6 hF
    obtain ⟨r7, h7, e7, hF⟩ := zb_some hF
    exact ((frpN (((frrN h).tr (nf_X7_meets e3)).tr (nf_X3_holdNoMore e5))).tr (nf_X3_toCleaning e7)).tr (n_X3_takeBack_45 hF)
  · have hF := im c6 hF
    obtain ⟨r8, h8, e8, hF⟩ := zb_some hF
    exact ((frpN (((frrN h).tr (nf_X7_meets e3)).tr (nf_X3_holdNoMore e5))).tr (nf_X3_charge e8)).tr (n_X3_takeBack_45 hF)
theorem nf_X3_takeBack {l0 l1 l2 : Int} {h : zH} {r : Int} {h' : zH} (hF : F_X3_takeBack l0 l1 l2 h = some (r, h')) : FrN h h' := n_X3_takeBack_0 hF
theorem n_X8_giveUp_36 {l0 l1 l2 : Int} {h : zH} {r : Int} {h' : zH} (hF : F_X8_giveUp_36 l0 l1 l2 h = some (r, h')) : FrN h h' := by
  unfold F_X8_giveUp_36 at hF
  obtain ⟨g1, hF⟩ := zg hF
  by_cases c2 : gt h 4 l1 1 = 2
  · have hF := ip c2 hF
    obtain ⟨_, rfl⟩ := zr hF
    exact (frrN h)
  · have hF := im c2 hF
    by_cases c3 : gt h 4 l1 0 = -1
    · have hF := ip c3 hF
      obtain ⟨_, rfl⟩ := zr hF
      exact (frrN h)
    · have hF := im c3 hF
      obtain ⟨g4, hF⟩ := zg hF
      obtain ⟨g6, hF⟩ := zg hF
      obtain ⟨r5, h5, e5, hF⟩ := zb_some hF
      by_cases c7 : r5 = 0
      · have hF := ip c7 hF
        obtain ⟨_, rfl⟩ := zr hF
        exact ((frrN h).tr (nf_X3_takeBack e5))
      · have hF := im c7 hF
        obtain ⟨_, rfl⟩ := zr hF
        exact ((frrN h).tr (nf_X3_takeBack e5))
theorem n_X8_giveUp_5b {ag5 : Int → Int → Int → Int → Int → zH → zO} (hag5 : ∀ (l0 l1 l2 l3 l4 : Int) (h : zH) (r : Int) (h' : zH), ag5 l0 l1 l2 l3 l4 h = some (r, h') → FrN h h') {l0 l1 l2 l3 l4 : Int} {h : zH} {r : Int} {h' : zH} (hF : F_X8_giveUp_5b ag5 l0 l1 l2 l3 l4 h = some (r, h')) : FrN h h' := by
  unfold F_X8_giveUp_5b at hF
  by_cases c1 : 160 ≤ l4
  · have hF := ip c1 hF
    exact (frrN h).tr (n_X8_giveUp_36 hF)
  · have hF := im c1 hF
    by_cases c2 : l3 = -1
    · have hF := ip c2 hF
      exact (frrN h).tr (n_X8_giveUp_36 hF)
    · have hF := im c2 hF
      obtain ⟨g3, hF⟩ := zg hF
      obtain ⟨r4, h4, e4, hF⟩ := zb_some hF
      exact ((frrN h).tr (nf_X4_close e4)).tr (hag5 _ _ _ _ _ _ _ _ hF)
theorem n_X8_giveUp_5 : ∀ (n : Nat) (l0 l1 l2 l3 l4 : Int) (h : zH) (r : Int) (h' : zH), F_X8_giveUp_5 n l0 l1 l2 l3 l4 h = some (r, h') → FrN h h'
  | 0, _, _, _, _, _, _, _, _, hF => by cases hF
  | n + 1, _, _, _, _, _, _, _, _, hF => n_X8_giveUp_5b (n_X8_giveUp_5 n) hF
theorem n_X8_giveUp_0 {l0 l1 l2 : Int} {h : zH} {r : Int} {h' : zH} (hF : F_X8_giveUp_0 l0 l1 l2 h = some (r, h')) : FrN h h' := by
  unfold F_X8_giveUp_0 at hF
  exact (frrN h).tr (n_X8_giveUp_5 _ _ _ _ _ _ _ _ _ hF)
theorem nf_X8_giveUp {l0 l1 l2 : Int} {h : zH} {r : Int} {h' : zH} (hF : F_X8_giveUp l0 l1 l2 h = some (r, h')) : FrN h h' := n_X8_giveUp_0 hF
theorem n_X8_partOf_0 {l0 : Int} {h : zH} {r : Int} {h' : zH} (hF : F_X8_partOf_0 l0 h = some (r, h')) : FrN h h' := by
  unfold F_X8_partOf_0 at hF
  by_cases c1 : l0 = -1
  · have hF := ip c1 hF
    obtain ⟨_, rfl⟩ := zr hF
    exact (frrN h)
  · have hF := im c1 hF
    obtain ⟨g2, hF⟩ := zg hF
    by_cases c3 : gt h 4 l0 0 ≠ -1
    · have hF := ip c3 hF
      obtain ⟨g4, hF⟩ := zg hF
      obtain ⟨_, rfl⟩ := zr hF
      exact (frrN h)
    · have hF := im c3 hF
      obtain ⟨_, rfl⟩ := zr hF
      exact (frrN h)
theorem nf_X8_partOf {l0 : Int} {h : zH} {r : Int} {h' : zH} (hF : F_X8_partOf l0 h = some (r, h')) : FrN h h' := n_X8_partOf_0 hF
theorem n_X2_add_0 {l0 l1 l2 l3 l4 : Int} {h : zH} {r : Int} {h' : zH} (hF : F_X2_add_0 l0 l1 l2 l3 l4 h = some (r, h')) : FrN h h' := by
  unfold F_X2_add_0 at hF
  obtain ⟨g1, hF⟩ := zg hF
  obtain ⟨r2, h2, e2, hF⟩ := zb_some hF
  by_cases c3 : r2 ≠ 0
  · have hF := ip c3 hF
    obtain ⟨g4, hF⟩ := zg hF
    obtain ⟨g5, hF⟩ := zg hF
    obtain ⟨g6, hF⟩ := zg hF
    obtain ⟨g7, hF⟩ := zg hF
    have hF := zl_e hF
    have fk8 : FrN h (pt (pt h2 21 (gt h2 2 l0 0) (gt h2 2 l0 6) l1) 22 (gt (pt h2 21 (gt h2 2 l0 0) (gt h2 2 l0 6) l1) 2 l0 1) (gt (pt h2 21 (gt h2 2 l0 0) (gt h2 2 l0 6) l1) 2 l0 6) l2) := (frpN (frpN ((frrN h).tr (nf_X11_within e2))))
    generalize pt (pt h2 21 (gt h2 2 l0 0) (gt h2 2 l0 6) l1) 22 (gt (pt h2 21 (gt h2 2 l0 0) (gt h2 2 l0 6) l1) 2 l0 1) (gt (pt h2 21 (gt h2 2 l0 0) (gt h2 2 l0 6) l1) 2 l0 6) l2 = k8 at hF fk8
    obtain ⟨g9, hF⟩ := zg hF
    obtain ⟨g10, hF⟩ := zg hF
    obtain ⟨g11, hF⟩ := zg hF
    obtain ⟨g12, hF⟩ := zg hF
    have hF := zl_e hF
    have fk13 : FrN h (pt (pt k8 23 (gt k8 2 l0 2) (gt k8 2 l0 6) l3) 24 (gt (pt k8 23 (gt k8 2 l0 2) (gt k8 2 l0 6) l3) 2 l0 3) (gt (pt k8 23 (gt k8 2 l0 2) (gt k8 2 l0 6) l3) 2 l0 6) l4) := (frpN (frpN fk8))
    generalize pt (pt k8 23 (gt k8 2 l0 2) (gt k8 2 l0 6) l3) 24 (gt (pt k8 23 (gt k8 2 l0 2) (gt k8 2 l0 6) l3) 2 l0 3) (gt (pt k8 23 (gt k8 2 l0 2) (gt k8 2 l0 6) l3) 2 l0 6) l4 = k13 at hF fk13
    obtain ⟨g14, hF⟩ := zg hF
    obtain ⟨g15, hF⟩ := zg hF
    obtain ⟨g16, hF⟩ := zg hF
    obtain ⟨g17, hF⟩ := zg hF
    have hF := zl_e hF
    have fk18 : FrN h (pt (pt k13 25 (gt k13 2 l0 4) (gt k13 2 l0 6) (-1)) 26 (gt (pt k13 25 (gt k13 2 l0 4) (gt k13 2 l0 6) (-1)) 2 l0 5) (gt (pt k13 25 (gt k13 2 l0 4) (gt k13 2 l0 6) (-1)) 2 l0 6) (-1)) := (frpN (frpN fk13))
    generalize pt (pt k13 25 (gt k13 2 l0 4) (gt k13 2 l0 6) (-1)) 26 (gt (pt k13 25 (gt k13 2 l0 4) (gt k13 2 l0 6) (-1)) 2 l0 5) (gt (pt k13 25 (gt k13 2 l0 4) (gt k13 2 l0 6) (-1)) 2 l0 6) (-1) = k18 at hF fk18
    obtain ⟨_, rfl⟩ := zr hF
    exact (frpN fk18)
  · have hF := im c3 hF
    obtain ⟨_, rfl⟩ := zr hF
    exact ((frrN h).tr (nf_X11_within e2))
theorem nf_X2_add {l0 l1 l2 l3 l4 : Int} {h : zH} {r : Int} {h' : zH} (hF : F_X2_add l0 l1 l2 l3 l4 h = some (r, h')) : FrN h h' := n_X2_add_0 hF
theorem n_X2_suppress_0 {l0 l1 l2 : Int} {h : zH} {r : Int} {h' : zH} (hF : F_X2_suppress_0 l0 l1 l2 h = some (r, h')) : FrN h h' := by
  unfold F_X2_suppress_0 at hF
  obtain ⟨g1, hF⟩ := zg hF
  obtain ⟨r2, h2, e2, hF⟩ := zb_some hF
  by_cases c3 : r2 = 0
  · have hF := ip c3 hF
    obtain ⟨_, rfl⟩ := zr hF
    exact ((frrN h).tr (nf_X11_within e2))
  · have hF := im c3 hF
    obtain ⟨g4, hF⟩ := zg hF
    obtain ⟨g5, hF⟩ := zg hF
    obtain ⟨_, rfl⟩ := zr hF
    exact (frpN ((frrN h).tr (nf_X11_within e2)))
theorem nf_X2_suppress {l0 l1 l2 : Int} {h : zH} {r : Int} {h' : zH} (hF : F_X2_suppress l0 l1 l2 h = some (r, h')) : FrN h h' := n_X2_suppress_0 hF
theorem n_X8_failAtEnd_0 {l0 l1 l2 : Int} {h : zH} {r : Int} {h' : zH} (hF : F_X8_failAtEnd_0 l0 l1 l2 h = some (r, h')) : FrN h h' := by
  unfold F_X8_failAtEnd_0 at hF
  obtain ⟨g1, hF⟩ := zg hF
  obtain ⟨g2, hF⟩ := zg hF
  obtain ⟨g4, hF⟩ := zg hF
  obtain ⟨r3, h3, e3, hF⟩ := zb_some hF
  by_cases c5 : r3 ≠ (-1)
  · have hF := ip c5 hF
    by_cases c6 : gt h3 8 l0 12 ≠ 3
    · have hF := ip c6 hF
      obtain ⟨_, rfl⟩ := zr hF
      exact (frpN (frpN ((frrN h).tr (nf_X2_add e3))))
    · have hF := im c6 hF
      obtain ⟨g8, hF⟩ := zg hF
      obtain ⟨r7, h7, e7, hF⟩ := zb_some hF
      obtain ⟨_, rfl⟩ := zr hF
      exact (((frrN h).tr (nf_X2_add e3)).tr (nf_X2_suppress e7))
  · have hF := im c5 hF
    obtain ⟨_, rfl⟩ := zr hF
    exact (frpN ((frrN h).tr (nf_X2_add e3)))
theorem nf_X8_failAtEnd {l0 l1 l2 : Int} {h : zH} {r : Int} {h' : zH} (hF : F_X8_failAtEnd l0 l1 l2 h = some (r, h')) : FrN h h' := n_X8_failAtEnd_0 hF
theorem n_X8_endInnermost_63 {l0 : Int} {h : zH} {r : Int} {h' : zH} (hF : F_X8_endInnermost_63 l0 h = some (r, h')) : FrN h h' := by
  unfold F_X8_endInnermost_63 at hF
  obtain ⟨g1, hF⟩ := zg hF
  by_cases c2 : gt h 8 l0 12 = 4
  · have hF := ip c2 hF
    obtain ⟨_, rfl⟩ := zr hF
    exact (frrN h)
  · have hF := im c2 hF
    by_cases c3 : gt h 8 l0 7 ≤ 0
    · have hF := ip c3 hF
      obtain ⟨_, rfl⟩ := zr hF
      exact (frrN h)
    · have hF := im c3 hF
      obtain ⟨_, rfl⟩ := zr hF
      exact (frpN (frpN (frrN h)))
theorem n_X8_endInnermost_12b {ag12 : Int → Int → Int → zH → zO} (hag12 : ∀ (l0 l1 l2 : Int) (h : zH) (r : Int) (h' : zH), ag12 l0 l1 l2 h = some (r, h') → FrN h h') {l0 l1 l2 : Int} {h : zH} {r : Int} {h' : zH} (hF : F_X8_endInnermost_12b ag12 l0 l1 l2 h = some (r, h')) : FrN h h' := by
  unfold F_X8_endInnermost_12b at hF
  by_cases c1 : 160 ≤ l2
  · have hF := ip c1 hF
    exact (frrN h).tr (n_X8_endInnermost_63 hF)
  · have hF := im c1 hF
    obtain ⟨g2, hF⟩ := zg hF
    by_cases c3 : gt h 9 l1 2 = -1
    · have hF := ip c3 hF
      exact (frrN h).tr (n_X8_endInnermost_63 hF)
    · have hF := im c3 hF
      obtain ⟨g4, hF⟩ := zg hF
      by_cases c5 : gt h 8 l0 12 = 4
      · have hF := ip c5 hF
        exact (frrN h).tr (n_X8_endInnermost_63 hF)
      · have hF := im c5 hF
        obtain ⟨r6, h6, e6, hF⟩ := zb_some hF
        by_cases c7 : r6 = 0
        · have hF := ip c7 hF
          exact ((frrN h).tr (nf_X8_giveUp e6)).tr (hag12 _ _ _ _ _ _ hF)
        · have hF := im c7 hF
          obtain ⟨r8, h8, e8, hF⟩ := zb_some hF
          obtain ⟨r9, h9, e9, hF⟩ := zb_some hF
          exact ((((frrN h).tr (nf_X8_giveUp e6)).tr (nf_X8_partOf e8)).tr (nf_X8_failAtEnd e9)).tr (hag12 _ _ _ _ _ _ hF)
theorem n_X8_endInnermost_12 : ∀ (n : Nat) (l0 l1 l2 : Int) (h : zH) (r : Int) (h' : zH), F_X8_endInnermost_12 n l0 l1 l2 h = some (r, h') → FrN h h'
  | 0, _, _, _, _, _, _, hF => by cases hF
  | n + 1, _, _, _, _, _, _, hF => n_X8_endInnermost_12b (n_X8_endInnermost_12 n) hF
theorem n_X8_endInnermost_0 {l0 : Int} {h : zH} {r : Int} {h' : zH} (hF : F_X8_endInnermost_0 l0 h = some (r, h')) : FrN h h' := by
  unfold F_X8_endInnermost_0 at hF
  obtain ⟨g1, hF⟩ := zg hF
  obtain ⟨g2, hF⟩ := zg hF
  obtain ⟨g3, hF⟩ := zg hF
  exact (frrN h).tr (n_X8_endInnermost_12 _ _ _ _ _ _ _ hF)
theorem nf_X8_endInnermost {l0 : Int} {h : zH} {r : Int} {h' : zH} (hF : F_X8_endInnermost l0 h = some (r, h')) : FrN h h' := n_X8_endInnermost_0 hF
theorem n_X8_pop_0 {l0 : Int} {h : zH} {r : Int} {h' : zH} (hF : F_X8_pop_0 l0 h = some (r, h')) : FrN h h' := by
  unfold F_X8_pop_0 at hF
  obtain ⟨g1, hF⟩ := zg hF
  by_cases c2 : gt h 8 l0 5 ≤ 0
  · have hF := ip c2 hF
    obtain ⟨_, rfl⟩ := zr hF
    exact (frrN h)
  · have hF := im c2 hF
    obtain ⟨_, rfl⟩ := zr hF
    exact (frpN (frrN h))
theorem nf_X8_pop {l0 : Int} {h : zH} {r : Int} {h' : zH} (hF : F_X8_pop l0 h = some (r, h')) : FrN h h' := n_X8_pop_0 hF
theorem n_X8_endScopeBlock_0 {l0 l1 : Int} {h : zH} {r : Int} {h' : zH} (hF : F_X8_endScopeBlock_0 l0 l1 h = some (r, h')) : FrN h h' := by
  unfold F_X8_endScopeBlock_0 at hF
  obtain ⟨g2, hF⟩ := zg hF
  obtain ⟨r1, h1, e1, hF⟩ := zb_some hF
  obtain ⟨r3, h3, e3, hF⟩ := zb_some hF
  by_cases c4 : gt h3 8 l0 12 ≠ 0
  · have hF := ip c4 hF
    obtain ⟨_, rfl⟩ := zr hF
    exact (((frrN h).tr (nf_X8_endInnermost e1)).tr (nf_X8_pop e3))
  · have hF := im c4 hF
    obtain ⟨g5, hF⟩ := zg hF
    obtain ⟨_, rfl⟩ := zr hF
    exact (frpN (((frrN h).tr (nf_X8_endInnermost e1)).tr (nf_X8_pop e3)))
theorem nf_X8_endScopeBlock {l0 l1 : Int} {h : zH} {r : Int} {h' : zH} (hF : F_X8_endScopeBlock l0 l1 h = some (r, h')) : FrN h h' := n_X8_endScopeBlock_0 hF
theorem n_X10_nextOf_0 {l0 l1 : Int} {h : zH} {r : Int} {h' : zH} (hF : F_X10_nextOf_0 l0 l1 h = some (r, h')) : FrN h h' := by
  unfold F_X10_nextOf_0 at hF
  obtain ⟨g1, hF⟩ := zg hF
  obtain ⟨r2, h2, e2, hF⟩ := zb_some hF
  by_cases c3 : r2 = 0
  · have hF := ip c3 hF
    obtain ⟨_, rfl⟩ := zr hF
    exact ((frrN h).tr (nf_X11_within e2))
  · have hF := im c3 hF
    obtain ⟨g4, hF⟩ := zg hF
    obtain ⟨g5, hF⟩ := zg hF
    obtain ⟨_, rfl⟩ := zr hF
    exact ((frrN h).tr (nf_X11_within e2))
theorem nf_X10_nextOf {l0 l1 : Int} {h : zH} {r : Int} {h' : zH} (hF : F_X10_nextOf l0 l1 h = some (r, h')) : FrN h h' := n_X10_nextOf_0 hF
theorem n_X8_leaveLoop_0 {l0 l1 l2 : Int} {h : zH} {r : Int} {h' : zH} (hF : F_X8_leaveLoop_0 l0 l1 l2 h = some (r, h')) : FrN h h' := by
  unfold F_X8_leaveLoop_0 at hF
  obtain ⟨g2, hF⟩ := zg hF
  obtain ⟨r1, h1, e1, hF⟩ := zb_some hF
  by_cases c3 : gt h1 8 l0 12 ≠ 2
  · have hF := ip c3 hF
    obtain ⟨_, rfl⟩ := zr hF
    exact ((frrN h).tr (nf_X8_pop e1))
  · have hF := im c3 hF
    obtain ⟨g4, hF⟩ := zg hF
    obtain ⟨g5, hF⟩ := zg hF
    obtain ⟨g7, hF⟩ := zg hF
    obtain ⟨r6, h6, e6, hF⟩ := zb_some hF
    obtain ⟨_, rfl⟩ := zr hF
    exact (frpN ((frpN ((frrN h).tr (nf_X8_pop e1))).tr (nf_X10_nextOf e6)))
theorem nf_X8_leaveLoop {l0 l1 l2 : Int} {h : zH} {r : Int} {h' : zH} (hF : F_X8_leaveLoop l0 l1 l2 h = some (r, h')) : FrN h h' := n_X8_leaveLoop_0 hF
theorem n_X8_leaveLastWay_44 {l0 : Int} {h : zH} {r : Int} {h' : zH} (hF : F_X8_leaveLastWay_44 l0 h = some (r, h')) : FrN h h' := by
  unfold F_X8_leaveLastWay_44 at hF
  obtain ⟨g2, hF⟩ := zg hF
  obtain ⟨r1, h1, e1, hF⟩ := zb_some hF
  obtain ⟨_, rfl⟩ := zr hF
  exact ((frrN h).tr (nf_X8_pop e1))
theorem n_X8_leaveLastWay_0 {l0 l1 : Int} {h : zH} {r : Int} {h' : zH} (hF : F_X8_leaveLastWay_0 l0 l1 h = some (r, h')) : FrN h h' := by
  unfold F_X8_leaveLastWay_0 at hF
  obtain ⟨g1, hF⟩ := zg hF
  by_cases c2 : gt h 0 l1 5 ≠ 3
  · have hF := ip c2 hF
    exact (frrN h).tr (n_X8_leaveLastWay_44 hF)
  · have hF := im c2 hF
    obtain ⟨g3, hF⟩ := zg hF
    by_cases c4 : gt h 8 l0 12 ≠ 3
    · have hF := ip c4 hF
      exact (frpN (frrN h)).tr (n_X8_leaveLastWay_44 hF)
    · have hF := im c4 hF
      obtain ⟨g6, hF⟩ := zg hF
      obtain ⟨r5, h5, e5, hF⟩ := zb_some hF
      exact ((frrN h).tr (nf_X2_suppress e5)).tr (n_X8_leaveLastWay_44 hF)
theorem nf_X8_leaveLastWay {l0 l1 : Int} {h : zH} {r : Int} {h' : zH} (hF : F_X8_leaveLastWay l0 l1 h = some (r, h')) : FrN h h' := n_X8_leaveLastWay_0 hF
theorem n_X2_kindOf_0 {l0 l1 : Int} {h : zH} {r : Int} {h' : zH} (hF : F_X2_kindOf_0 l0 l1 h = some (r, h')) : FrN h h' := by
  unfold F_X2_kindOf_0 at hF
  obtain ⟨g1, hF⟩ := zg hF
  obtain ⟨r2, h2, e2, hF⟩ := zb_some hF
  by_cases c3 : r2 = 0
  · have hF := ip c3 hF
    obtain ⟨_, rfl⟩ := zr hF
    exact ((frrN h).tr (nf_X11_within e2))
  · have hF := im c3 hF
    obtain ⟨g4, hF⟩ := zg hF
    obtain ⟨g5, hF⟩ := zg hF
    obtain ⟨_, rfl⟩ := zr hF
    exact ((frrN h).tr (nf_X11_within e2))
theorem nf_X2_kindOf {l0 l1 : Int} {h : zH} {r : Int} {h' : zH} (hF : F_X2_kindOf l0 l1 h = some (r, h')) : FrN h h' := n_X2_kindOf_0 hF
theorem n_X10_aAt_0 {l0 l1 : Int} {h : zH} {r : Int} {h' : zH} (hF : F_X10_aAt_0 l0 l1 h = some (r, h')) : FrN h h' := by
  unfold F_X10_aAt_0 at hF
  obtain ⟨g1, hF⟩ := zg hF
  obtain ⟨r2, h2, e2, hF⟩ := zb_some hF
  by_cases c3 : r2 = 0
  · have hF := ip c3 hF
    obtain ⟨_, rfl⟩ := zr hF
    exact ((frrN h).tr (nf_X11_within e2))
  · have hF := im c3 hF
    obtain ⟨g4, hF⟩ := zg hF
    obtain ⟨g5, hF⟩ := zg hF
    obtain ⟨_, rfl⟩ := zr hF
    exact ((frrN h).tr (nf_X11_within e2))
theorem nf_X10_aAt {l0 l1 : Int} {h : zH} {r : Int} {h' : zH} (hF : F_X10_aAt l0 l1 h = some (r, h')) : FrN h h' := n_X10_aAt_0 hF
theorem n_X11_isUnder_4b {ag4 : Int → Int → Int → zH → zO} (hag4 : ∀ (l1 l2 l3 : Int) (h : zH) (r : Int) (h' : zH), ag4 l1 l2 l3 h = some (r, h') → FrN h h') {l1 l2 l3 : Int} {h : zH} {r : Int} {h' : zH} (hF : F_X11_isUnder_4b ag4 l1 l2 l3 h = some (r, h')) : FrN h h' := by
  unfold F_X11_isUnder_4b at hF
  by_cases c1 : 12 ≤ l3
  · have hF := ip c1 hF
    obtain ⟨_, rfl⟩ := zr hF
    exact (frrN h)
  · have hF := im c1 hF
    obtain ⟨r2, h2, e2, hF⟩ := zb_some hF
    by_cases c3 : r2 = 0
    · have hF := ip c3 hF
      obtain ⟨_, rfl⟩ := zr hF
      exact ((frrN h).tr (nf_X11_within e2))
    · have hF := im c3 hF
      by_cases c4 : l2 ≠ l1
      · have hF := ip c4 hF
        obtain ⟨g5, hF⟩ := zg hF
        exact ((frrN h).tr (nf_X11_within e2)).tr (hag4 _ _ _ _ _ _ hF)
      · have hF := im c4 hF
        obtain ⟨_, rfl⟩ := zr hF
        exact ((frrN h).tr (nf_X11_within e2))
theorem n_X11_isUnder_4 : ∀ (n : Nat) (l1 l2 l3 : Int) (h : zH) (r : Int) (h' : zH), F_X11_isUnder_4 n l1 l2 l3 h = some (r, h') → FrN h h'
  | 0, _, _, _, _, _, _, hF => by cases hF
  | n + 1, _, _, _, _, _, _, hF => n_X11_isUnder_4b (n_X11_isUnder_4 n) hF
theorem n_X11_isUnder_0 {l0 l1 : Int} {h : zH} {r : Int} {h' : zH} (hF : F_X11_isUnder_0 l0 l1 h = some (r, h')) : FrN h h' := by
  unfold F_X11_isUnder_0 at hF
  exact (frrN h).tr (n_X11_isUnder_4 _ _ _ _ _ _ _ hF)
theorem nf_X11_isUnder {l0 l1 : Int} {h : zH} {r : Int} {h' : zH} (hF : F_X11_isUnder l0 l1 h = some (r, h')) : FrN h h' := n_X11_isUnder_0 hF
theorem n_X10_guardFor_9b {ag9 : Int → Int → Int → Int → zH → zO} (hag9 : ∀ (l0 l2 l3 l4 : Int) (h : zH) (r : Int) (h' : zH), ag9 l0 l2 l3 l4 h = some (r, h') → FrN h h') {l0 l2 l3 l4 : Int} {h : zH} {r : Int} {h' : zH} (hF : F_X10_guardFor_9b ag9 l0 l2 l3 l4 h = some (r, h')) : FrN h h' := by
  unfold F_X10_guardFor_9b at hF
  by_cases c1 : 40 ≤ l4
  · have hF := ip c1 hF
    obtain ⟨_, rfl⟩ := zr hF
    exact (frrN h)
  · have hF := im c1 hF
    obtain ⟨g3, hF⟩ := zg hF
    obtain ⟨r2, h2, e2, hF⟩ := zb_some hF
    by_cases c4 : r2 ≠ 14
    · have hF := ip c4 hF
      obtain ⟨_, rfl⟩ := zr hF
      exact ((frrN h).tr (nf_X10_opAt e2))
    · have hF := im c4 hF
      obtain ⟨r5, h5, e5, hF⟩ := zb_some hF
      obtain ⟨r6, h6, e6, hF⟩ := zb_some hF
      by_cases c7 : r6 = 0
      · have hF := ip c7 hF
        obtain ⟨r8, h8, e8, hF⟩ := zb_some hF
        exact (((((frrN h).tr (nf_X10_opAt e2)).tr (nf_X10_aAt e5)).tr (nf_X11_isUnder e6)).tr (nf_X10_nextOf e8)).tr (hag9 _ _ _ _ _ _ _ hF)
      · have hF := im c7 hF
        obtain ⟨_, rfl⟩ := zr hF
        exact ((((frrN h).tr (nf_X10_opAt e2)).tr (nf_X10_aAt e5)).tr (nf_X11_isUnder e6))
theorem n_X10_guardFor_9 : ∀ (n : Nat) (l0 l2 l3 l4 : Int) (h : zH) (r : Int) (h' : zH), F_X10_guardFor_9 n l0 l2 l3 l4 h = some (r, h') → FrN h h'
  | 0, _, _, _, _, _, _, _, hF => by cases hF
  | n + 1, _, _, _, _, _, _, _, hF => n_X10_guardFor_9b (n_X10_guardFor_9 n) hF
theorem n_X10_guardFor_0 {l0 l1 l2 : Int} {h : zH} {r : Int} {h' : zH} (hF : F_X10_guardFor_0 l0 l1 l2 h = some (r, h')) : FrN h h' := by
  unfold F_X10_guardFor_0 at hF
  obtain ⟨g2, hF⟩ := zg hF
  obtain ⟨r1, h1, e1, hF⟩ := zb_some hF
  exact ((frrN h).tr (nf_X10_nextOf e1)).tr (n_X10_guardFor_9 _ _ _ _ _ _ _ _ hF)
theorem nf_X10_guardFor {l0 l1 l2 : Int} {h : zH} {r : Int} {h' : zH} (hF : F_X10_guardFor l0 l1 l2 h = some (r, h')) : FrN h h' := n_X10_guardFor_0 hF
theorem n_X8_step_0 {l0 : Int} {h : zH} {r : Int} {h' : zH} (hF : F_X8_step_0 l0 h = some (r, h')) : FrN h h' := by
  unfold F_X8_step_0 at hF
  obtain ⟨g1, hF⟩ := zg hF
  by_cases c2 : gt h 8 l0 14 < 160
  · have hF := ip c2 hF
    obtain ⟨_, rfl⟩ := zr hF
    exact (frpN (frrN h))
  · have hF := im c2 hF
    obtain ⟨_, rfl⟩ := zr hF
    exact (frpN (frrN h))
theorem nf_X8_step {l0 : Int} {h : zH} {r : Int} {h' : zH} (hF : F_X8_step l0 h = some (r, h')) : FrN h h' := n_X8_step_0 hF
theorem n_X8_beginWay_0 {l0 l1 l2 l3 : Int} {h : zH} {r : Int} {h' : zH} (hF : F_X8_beginWay_0 l0 l1 l2 l3 h = some (r, h')) : FrN h h' := by
  unfold F_X8_beginWay_0 at hF
  obtain ⟨g2, hF⟩ := zg hF
  obtain ⟨r1, h1, e1, hF⟩ := zb_some hF
  by_cases c3 : r1 = 0
  · have hF := ip c3 hF
    obtain ⟨_, rfl⟩ := zr hF
    exact ((frrN h).tr (nf_X8_step e1))
  · have hF := im c3 hF
    obtain ⟨g4, hF⟩ := zg hF
    obtain ⟨g5, hF⟩ := zg hF
    obtain ⟨_, rfl⟩ := zr hF
    exact (frpN (frpN (frpN (frpN (frpN ((frrN h).tr (nf_X8_step e1)))))))
theorem nf_X8_beginWay {l0 l1 l2 l3 : Int} {h : zH} {r : Int} {h' : zH} (hF : F_X8_beginWay l0 l1 l2 l3 h = some (r, h')) : FrN h h' := n_X8_beginWay_0 hF
theorem n_X2_giveCause_0 {l0 l1 l2 : Int} {h : zH} {r : Int} {h' : zH} (hF : F_X2_giveCause_0 l0 l1 l2 h = some (r, h')) : FrN h h' := by
  unfold F_X2_giveCause_0 at hF
  obtain ⟨g1, hF⟩ := zg hF
  obtain ⟨r2, h2, e2, hF⟩ := zb_some hF
  by_cases c3 : r2 = 0
  · have hF := ip c3 hF
    obtain ⟨_, rfl⟩ := zr hF
    exact ((frrN h).tr (nf_X11_within e2))
  · have hF := im c3 hF
    obtain ⟨g4, hF⟩ := zg hF
    obtain ⟨g5, hF⟩ := zg hF
    by_cases c6 : gt h2 25 (gt h2 2 l0 4) l1 ≠ (-1)
    · have hF := ip c6 hF
      obtain ⟨_, rfl⟩ := zr hF
      exact ((frrN h).tr (nf_X11_within e2))
    · have hF := im c6 hF
      obtain ⟨_, rfl⟩ := zr hF
      exact (frpN ((frrN h).tr (nf_X11_within e2)))
theorem nf_X2_giveCause {l0 l1 l2 : Int} {h : zH} {r : Int} {h' : zH} (hF : F_X2_giveCause l0 l1 l2 h = some (r, h')) : FrN h h' := n_X2_giveCause_0 hF
theorem n_X10_wayOut_8b {ag8 : Int → Int → Int → zH → zO} (hag8 : ∀ (l0 l2 l3 : Int) (h : zH) (r : Int) (h' : zH), ag8 l0 l2 l3 h = some (r, h') → FrN h h') {l0 l2 l3 : Int} {h : zH} {r : Int} {h' : zH} (hF : F_X10_wayOut_8b ag8 l0 l2 l3 h = some (r, h')) : FrN h h' := by
  unfold F_X10_wayOut_8b at hF
  by_cases c1 : 40 ≤ l3
  · have hF := ip c1 hF
    obtain ⟨_, rfl⟩ := zr hF
    exact (frrN h)
  · have hF := im c1 hF
    obtain ⟨g3, hF⟩ := zg hF
    obtain ⟨r2, h2, e2, hF⟩ := zb_some hF
    by_cases c4 : r2 ≠ 14
    · have hF := ip c4 hF
      obtain ⟨_, rfl⟩ := zr hF
      exact ((frrN h).tr (nf_X10_opAt e2))
    · have hF := im c4 hF
      obtain ⟨r5, h5, e5, hF⟩ := zb_some hF
      exact (((frrN h).tr (nf_X10_opAt e2)).tr (nf_X10_nextOf e5)).tr (hag8 _ _ _ _ _ _ hF)
theorem n_X10_wayOut_8 : ∀ (n : Nat) (l0 l2 l3 : Int) (h : zH) (r : Int) (h' : zH), F_X10_wayOut_8 n l0 l2 l3 h = some (r, h') → FrN h h'
  | 0, _, _, _, _, _, _, hF => by cases hF
  | n + 1, _, _, _, _, _, _, hF => n_X10_wayOut_8b (n_X10_wayOut_8 n) hF
theorem n_X10_wayOut_0 {l0 l1 : Int} {h : zH} {r : Int} {h' : zH} (hF : F_X10_wayOut_0 l0 l1 h = some (r, h')) : FrN h h' := by
  unfold F_X10_wayOut_0 at hF
  obtain ⟨g2, hF⟩ := zg hF
  obtain ⟨r1, h1, e1, hF⟩ := zb_some hF
  exact ((frrN h).tr (nf_X10_nextOf e1)).tr (n_X10_wayOut_8 _ _ _ _ _ _ _ hF)
theorem nf_X10_wayOut {l0 l1 : Int} {h : zH} {r : Int} {h' : zH} (hF : F_X10_wayOut l0 l1 h = some (r, h')) : FrN h h' := n_X10_wayOut_0 hF
theorem n_X8_leaveWay_0 {l0 l1 l2 : Int} {h : zH} {r : Int} {h' : zH} (hF : F_X8_leaveWay_0 l0 l1 l2 h = some (r, h')) : FrN h h' := by
  unfold F_X8_leaveWay_0 at hF
  obtain ⟨g1, hF⟩ := zg hF
  obtain ⟨g2, hF⟩ := zg hF
  obtain ⟨g4, hF⟩ := zg hF
  obtain ⟨r3, h3, e3, hF⟩ := zb_some hF
  obtain ⟨g6, hF⟩ := zg hF
  obtain ⟨r5, h5, e5, hF⟩ := zb_some hF
  by_cases c7 : r5 = 15
  · have hF := ip c7 hF
    obtain ⟨g9, hF⟩ := zg hF
    obtain ⟨r8, h8, e8, hF⟩ := zb_some hF
    by_cases c10 : r8 = 0
    · have hF := ip c10 hF
      obtain ⟨_, rfl⟩ := zr hF
      exact ((((frrN h).tr (nf_X10_wayOut e3)).tr (nf_X10_opAt e5)).tr (nf_X8_step e8))
    · have hF := im c10 hF
      have hF := zl_e hF
      have fk11 : FrN h (pt (pt (pt h8 0 l2 3 2) 0 l2 5 (gt (pt h8 0 l2 3 2) 8 l0 12)) 0 l2 6 (gt (pt (pt h8 0 l2 3 2) 0 l2 5 (gt (pt h8 0 l2 3 2) 8 l0 12)) 8 l0 13)) := (frpN (frpN (frpN ((((frrN h).tr (nf_X10_wayOut e3)).tr (nf_X10_opAt e5)).tr (nf_X8_step e8)))))
      generalize pt (pt (pt h8 0 l2 3 2) 0 l2 5 (gt (pt h8 0 l2 3 2) 8 l0 12)) 0 l2 6 (gt (pt (pt h8 0 l2 3 2) 0 l2 5 (gt (pt h8 0 l2 3 2) 8 l0 12)) 8 l0 13) = k11 at hF fk11
      obtain ⟨_, rfl⟩ := zr hF
      exact (frpN (frpN (frpN fk11)))
  · have hF := im c7 hF
    obtain ⟨g13, hF⟩ := zg hF
    obtain ⟨r12, h12, e12, hF⟩ := zb_some hF
    by_cases c14 : gt h12 8 l0 12 ≠ 0
    · have hF := ip c14 hF
      obtain ⟨_, rfl⟩ := zr hF
      exact ((((frrN h).tr (nf_X10_wayOut e3)).tr (nf_X10_opAt e5)).tr (nf_X8_pop e12))
    · have hF := im c14 hF
      obtain ⟨_, rfl⟩ := zr hF
      exact (frpN ((((frrN h).tr (nf_X10_wayOut e3)).tr (nf_X10_opAt e5)).tr (nf_X8_pop e12)))
theorem nf_X8_leaveWay {l0 l1 l2 : Int} {h : zH} {r : Int} {h' : zH} (hF : F_X8_leaveWay l0 l1 l2 h = some (r, h')) : FrN h h' := n_X8_leaveWay_0 hF
theorem n_X8_leaveTry_96 {l0 l1 l2 : Int} {h : zH} {r : Int} {h' : zH} (hF : F_X8_leaveTry_96 l0 l1 l2 h = some (r, h')) : FrN h h' := by
  unfold F_X8_leaveTry_96 at hF
  obtain ⟨g2, hF⟩ := zg hF
  obtain ⟨r1, h1, e1, hF⟩ := zb_some hF
  obtain ⟨_, rfl⟩ := zr hF
  exact ((frrN h).tr (nf_X8_leaveWay e1))
theorem n_X8_leaveTry_65 {l0 l1 l2 : Int} {h : zH} {r : Int} {h' : zH} (hF : F_X8_leaveTry_65 l0 l1 l2 h = some (r, h')) : FrN h h' := by
  unfold F_X8_leaveTry_65 at hF
  obtain ⟨g1, hF⟩ := zg hF
  by_cases c2 : gt h 8 l0 12 ≠ 3
  · have hF := ip c2 hF
    exact (frrN h).tr (n_X8_leaveTry_96 hF)
  · have hF := im c2 hF
    obtain ⟨g3, hF⟩ := zg hF
    by_cases c4 : gt h 0 l2 3 ≠ 1
    · have hF := ip c4 hF
      exact (frrN h).tr (n_X8_leaveTry_96 hF)
    · have hF := im c4 hF
      obtain ⟨g6, hF⟩ := zg hF
      obtain ⟨r5, h5, e5, hF⟩ := zb_some hF
      exact ((frrN h).tr (nf_X2_giveCause e5)).tr (n_X8_leaveTry_96 hF)
theorem n_X8_leaveTry_0 {l0 l1 l2 : Int} {h : zH} {r : Int} {h' : zH} (hF : F_X8_leaveTry_0 l0 l1 l2 h = some (r, h')) : FrN h h' := by
  unfold F_X8_leaveTry_0 at hF
  obtain ⟨g1, hF⟩ := zg hF
  by_cases c2 : gt h 0 l2 3 ≠ 2
  · have hF := ip c2 hF
    obtain ⟨g3, hF⟩ := zg hF
    by_cases c4 : gt h 8 l0 12 ≠ 3
    · have hF := ip c4 hF
      exact (frrN h).tr (n_X8_leaveTry_65 hF)
    · have hF := im c4 hF
      by_cases c5 : gt h 0 l2 3 ≠ 0
      · have hF := ip c5 hF
        exact (frrN h).tr (n_X8_leaveTry_65 hF)
      · have hF := im c5 hF
        obtain ⟨g6, hF⟩ := zg hF
        obtain ⟨g8, hF⟩ := zg hF
        obtain ⟨r7, h7, e7, hF⟩ := zb_some hF
        obtain ⟨g10, hF⟩ := zg hF
        obtain ⟨r9, h9, e9, hF⟩ := zb_some hF
        by_cases c11 : r9 = (-1)
        · have hF := ip c11 hF
          exact (((frrN h).tr (nf_X2_kindOf e7)).tr (nf_X10_guardFor e9)).tr (n_X8_leaveTry_65 hF)
        · have hF := im c11 hF
          obtain ⟨r12, h12, e12, hF⟩ := zb_some hF
          obtain ⟨_, rfl⟩ := zr hF
          exact ((((frrN h).tr (nf_X2_kindOf e7)).tr (nf_X10_guardFor e9)).tr (nf_X8_beginWay e12))
  · have hF := im c2 hF
    obtain ⟨g14, hF⟩ := zg hF
    obtain ⟨r13, h13, e13, hF⟩ := zb_some hF
    obtain ⟨_, rfl⟩ := zr hF
    exact ((frrN h).tr (nf_X8_leaveLastWay e13))
theorem nf_X8_leaveTry {l0 l1 l2 : Int} {h : zH} {r : Int} {h' : zH} (hF : F_X8_leaveTry l0 l1 l2 h = some (r, h')) : FrN h h' := n_X8_leaveTry_0 hF
theorem n_X8_leaveAct_0 {l0 : Int} {h : zH} {r : Int} {h' : zH} (hF : F_X8_leaveAct_0 l0 h = some (r, h')) : FrN h h' := by
  unfold F_X8_leaveAct_0 at hF
  obtain ⟨g2, hF⟩ := zg hF
  obtain ⟨r1, h1, e1, hF⟩ := zb_some hF
  by_cases c3 : gt h1 8 l0 12 ≠ 4
  · have hF := ip c3 hF
    obtain ⟨r4, h4, e4, hF⟩ := zb_some hF
    by_cases c5 : gt (pt h4 8 l0 3 (wI ((gt h4 8 l0 3) - 1))) 8 l0 12 ≠ 1
    · have hF := ip c5 hF
      obtain ⟨_, rfl⟩ := zr hF
      exact (frpN (((frrN h).tr (nf_X8_endInnermost e1)).tr (nf_X8_pop e4)))
    · have hF := im c5 hF
      obtain ⟨g6, hF⟩ := zg hF
      obtain ⟨g7, hF⟩ := zg hF
      obtain ⟨g8, hF⟩ := zg hF
      have hF := zl_e hF
      have fk9 : FrN h (pt (pt (pt h4 8 l0 3 (wI ((gt h4 8 l0 3) - 1))) 8 l0 12 0) 1 (gt (pt (pt h4 8 l0 3 (wI ((gt h4 8 l0 3) - 1))) 8 l0 12 0) 39 (gt (pt (pt h4 8 l0 3 (wI ((gt h4 8 l0 3) - 1))) 8 l0 12 0) 8 l0 2) (gt (pt (pt h4 8 l0 3 (wI ((gt h4 8 l0 3) - 1))) 8 l0 12 0) 8 l0 3)) 2 (wI ((gt (pt (pt h4 8 l0 3 (wI ((gt h4 8 l0 3) - 1))) 8 l0 12 0) 1 (gt (pt (pt h4 8 l0 3 (wI ((gt h4 8 l0 3) - 1))) 8 l0 12 0) 39 (gt (pt (pt h4 8 l0 3 (wI ((gt h4 8 l0 3) - 1))) 8 l0 12 0) 8 l0 2) (gt (pt (pt h4 8 l0 3 (wI ((gt h4 8 l0 3) - 1))) 8 l0 12 0) 8 l0 3)) 2) + 1))) := (frpN (frpN (frpN (((frrN h).tr (nf_X8_endInnermost e1)).tr (nf_X8_pop e4)))))
      generalize pt (pt (pt h4 8 l0 3 (wI ((gt h4 8 l0 3) - 1))) 8 l0 12 0) 1 (gt (pt (pt h4 8 l0 3 (wI ((gt h4 8 l0 3) - 1))) 8 l0 12 0) 39 (gt (pt (pt h4 8 l0 3 (wI ((gt h4 8 l0 3) - 1))) 8 l0 12 0) 8 l0 2) (gt (pt (pt h4 8 l0 3 (wI ((gt h4 8 l0 3) - 1))) 8 l0 12 0) 8 l0 3)) 2 (wI ((gt (pt (pt h4 8 l0 3 (wI ((gt h4 8 l0 3) - 1))) 8 l0 12 0) 1 (gt (pt (pt h4 8 l0 3 (wI ((gt h4 8 l0 3) - 1))) 8 l0 12 0) 39 (gt (pt (pt h4 8 l0 3 (wI ((gt h4 8 l0 3) - 1))) 8 l0 12 0) 8 l0 2) (gt (pt (pt h4 8 l0 3 (wI ((gt h4 8 l0 3) - 1))) 8 l0 12 0) 8 l0 3)) 2) + 1)) = k9 at hF fk9
      obtain ⟨_, rfl⟩ := zr hF
      exact fk9
  · have hF := im c3 hF
    obtain ⟨_, rfl⟩ := zr hF
    exact ((frrN h).tr (nf_X8_endInnermost e1))
theorem nf_X8_leaveAct {l0 : Int} {h : zH} {r : Int} {h' : zH} (hF : F_X8_leaveAct l0 h = some (r, h')) : FrN h h' := n_X8_leaveAct_0 hF
theorem n_X8_leave_0 {l0 l1 : Int} {h : zH} {r : Int} {h' : zH} (hF : F_X8_leave_0 l0 l1 h = some (r, h')) : FrN h h' := by
  unfold F_X8_leave_0 at hF
  obtain ⟨g1, hF⟩ := zg hF
  obtain ⟨g2, hF⟩ := zg hF
  obtain ⟨g3, hF⟩ := zg hF
  obtain ⟨g4, hF⟩ := zg hF
  by_cases c5 : gt h 0 (gt h 40 (gt h 8 l0 4) (gt h 8 l0 5)) 0 = 11
  · have hF := ip c5 hF
    obtain ⟨r7, h7, e7, hF⟩ := zb_some hF
    obtain ⟨_, rfl⟩ := zr hF
    exact ((frrN h).tr (nf_X8_leaveLoop e7))
  · have hF := im c5 hF
    by_cases c8 : gt h 0 (gt h 40 (gt h 8 l0 4) (gt h 8 l0 5)) 0 = 12
    · have hF := ip c8 hF
      obtain ⟨r10, h10, e10, hF⟩ := zb_some hF
      obtain ⟨_, rfl⟩ := zr hF
      exact ((frrN h).tr (nf_X8_endScopeBlock e10))
    · have hF := im c8 hF
      by_cases c11 : gt h 0 (gt h 40 (gt h 8 l0 4) (gt h 8 l0 5)) 0 = 13
      · have hF := ip c11 hF
        obtain ⟨r13, h13, e13, hF⟩ := zb_some hF
        obtain ⟨_, rfl⟩ := zr hF
        exact ((frrN h).tr (nf_X8_leaveTry e13))
      · have hF := im c11 hF
        obtain ⟨r14, h14, e14, hF⟩ := zb_some hF
        obtain ⟨_, rfl⟩ := zr hF
        exact ((frrN h).tr (nf_X8_leaveAct e14))
theorem nf_X8_leave {l0 l1 : Int} {h : zH} {r : Int} {h' : zH} (hF : F_X8_leave l0 l1 h = some (r, h')) : FrN h h' := n_X8_leave_0 hF
theorem n_X8_endTurn_0 {l0 l1 l2 : Int} {h : zH} {r : Int} {h' : zH} (hF : F_X8_endTurn_0 l0 l1 l2 h = some (r, h')) : FrN h h' := by
  unfold F_X8_endTurn_0 at hF
  obtain ⟨g1, hF⟩ := zg hF
  by_cases c2 : 0 < gt h 0 l2 2
  · have hF := ip c2 hF
    obtain ⟨g4, hF⟩ := zg hF
    obtain ⟨r3, h3, e3, hF⟩ := zb_some hF
    by_cases c5 : r3 = 0
    · have hF := ip c5 hF
      obtain ⟨_, rfl⟩ := zr hF
      exact ((frrN h).tr (nf_X8_step e3))
    · have hF := im c5 hF
      obtain ⟨g6, hF⟩ := zg hF
      obtain ⟨_, rfl⟩ := zr hF
      exact (frpN (frpN ((frrN h).tr (nf_X8_step e3))))
  · have hF := im c2 hF
    obtain ⟨g8, hF⟩ := zg hF
    obtain ⟨r7, h7, e7, hF⟩ := zb_some hF
    obtain ⟨g9, hF⟩ := zg hF
    obtain ⟨_, rfl⟩ := zr hF
    exact (frpN ((frrN h).tr (nf_X8_pop e7)))
theorem nf_X8_endTurn {l0 l1 l2 : Int} {h : zH} {r : Int} {h' : zH} (hF : F_X8_endTurn l0 l1 l2 h = some (r, h')) : FrN h h' := n_X8_endTurn_0 hF
theorem n_X8_endLastWay_0 {l0 l1 l2 : Int} {h : zH} {r : Int} {h' : zH} (hF : F_X8_endLastWay_0 l0 l1 l2 h = some (r, h')) : FrN h h' := by
  unfold F_X8_endLastWay_0 at hF
  obtain ⟨g1, hF⟩ := zg hF
  obtain ⟨g2, hF⟩ := zg hF
  obtain ⟨r3, h3, e3, hF⟩ := zb_some hF
  obtain ⟨g4, hF⟩ := zg hF
  obtain ⟨_, rfl⟩ := zr hF
  exact (frpN ((frpN (frpN (frrN h))).tr (nf_X8_pop e3)))
theorem nf_X8_endLastWay {l0 l1 l2 : Int} {h : zH} {r : Int} {h' : zH} (hF : F_X8_endLastWay l0 l1 l2 h = some (r, h')) : FrN h h' := n_X8_endLastWay_0 hF
theorem n_X8_reachMark_0 {l0 l1 : Int} {h : zH} {r : Int} {h' : zH} (hF : F_X8_reachMark_0 l0 l1 h = some (r, h')) : FrN h h' := by
  unfold F_X8_reachMark_0 at hF
  obtain ⟨g1, hF⟩ := zg hF
  obtain ⟨g2, hF⟩ := zg hF
  obtain ⟨g3, hF⟩ := zg hF
  obtain ⟨g4, hF⟩ := zg hF
  by_cases c5 : gt h 0 (gt h 40 (gt h 8 l0 4) (gt h 8 l0 5)) 0 = 11
  · have hF := ip c5 hF
    obtain ⟨r7, h7, e7, hF⟩ := zb_some hF
    obtain ⟨_, rfl⟩ := zr hF
    exact ((frrN h).tr (nf_X8_endTurn e7))
  · have hF := im c5 hF
    by_cases c8 : gt h 0 (gt h 40 (gt h 8 l0 4) (gt h 8 l0 5)) 0 = 12
    · have hF := ip c8 hF
      obtain ⟨r10, h10, e10, hF⟩ := zb_some hF
      obtain ⟨_, rfl⟩ := zr hF
      exact ((frrN h).tr (nf_X8_endScopeBlock e10))
    · have hF := im c8 hF
      by_cases c11 : gt h 0 (gt h 40 (gt h 8 l0 4) (gt h 8 l0 5)) 0 = 13
      · have hF := ip c11 hF
        by_cases c15 : gt h 0 (gt h 40 (gt h 8 l0 4) (gt h 8 l0 5)) 3 ≠ 2
        · have hF := ip c15 hF
          obtain ⟨r16, h16, e16, hF⟩ := zb_some hF
          obtain ⟨_, rfl⟩ := zr hF
          exact ((frrN h).tr (nf_X8_leaveWay e16))
        · have hF := im c15 hF
          obtain ⟨r17, h17, e17, hF⟩ := zb_some hF
          obtain ⟨_, rfl⟩ := zr hF
          exact ((frrN h).tr (nf_X8_endLastWay e17))
      · have hF := im c11 hF
        obtain ⟨_, rfl⟩ := zr hF
        exact (frpN (frrN h))
theorem nf_X8_reachMark {l0 l1 : Int} {h : zH} {r : Int} {h' : zH} (hF : F_X8_reachMark l0 l1 h = some (r, h')) : FrN h h' := n_X8_reachMark_0 hF
theorem n_X10_bAt_0 {l0 l1 : Int} {h : zH} {r : Int} {h' : zH} (hF : F_X10_bAt_0 l0 l1 h = some (r, h')) : FrN h h' := by
  unfold F_X10_bAt_0 at hF
  obtain ⟨g1, hF⟩ := zg hF
  obtain ⟨r2, h2, e2, hF⟩ := zb_some hF
  by_cases c3 : r2 = 0
  · have hF := ip c3 hF
    obtain ⟨_, rfl⟩ := zr hF
    exact ((frrN h).tr (nf_X11_within e2))
  · have hF := im c3 hF
    obtain ⟨g4, hF⟩ := zg hF
    obtain ⟨g5, hF⟩ := zg hF
    obtain ⟨_, rfl⟩ := zr hF
    exact ((frrN h).tr (nf_X11_within e2))
theorem nf_X10_bAt {l0 l1 : Int} {h : zH} {r : Int} {h' : zH} (hF : F_X10_bAt l0 l1 h = some (r, h')) : FrN h h' := n_X10_bAt_0 hF
theorem n_X8_fail_0 {l0 l1 l2 l3 : Int} {h : zH} {r : Int} {h' : zH} (hF : F_X8_fail_0 l0 l1 l2 l3 h = some (r, h')) : FrN h h' := by
  unfold F_X8_fail_0 at hF
  obtain ⟨g1, hF⟩ := zg hF
  obtain ⟨g2, hF⟩ := zg hF
  obtain ⟨g4, hF⟩ := zg hF
  obtain ⟨r3, h3, e3, hF⟩ := zb_some hF
  by_cases c5 : r3 ≠ (-1)
  · have hF := ip c5 hF
    obtain ⟨_, rfl⟩ := zr hF
    exact (frpN (frpN ((frrN h).tr (nf_X2_add e3))))
  · have hF := im c5 hF
    obtain ⟨_, rfl⟩ := zr hF
    exact (frpN (frpN ((frrN h).tr (nf_X2_add e3))))
theorem nf_X8_fail {l0 l1 l2 l3 : Int} {h : zH} {r : Int} {h' : zH} (hF : F_X8_fail l0 l1 l2 l3 h = some (r, h')) : FrN h h' := n_X8_fail_0 hF
theorem n_X3_giveOut_0 {l0 l1 l2 l3 : Int} {h : zH} {r : Int} {h' : zH} (hF : F_X3_giveOut_0 l0 l1 l2 l3 h = some (r, h')) : FrN h h' := by
  unfold F_X3_giveOut_0 at hF
  obtain ⟨g1, hF⟩ := zg hF
  by_cases c2 : l3 = 0
  · have hF := ip c2 hF
    obtain ⟨_, rfl⟩ := zr hF
    exact (frpN (frpN (frpN (frrN h))))
  · have hF := im c2 hF
    obtain ⟨g3, hF⟩ := zg hF
    obtain ⟨r4, h4, e4, hF⟩ := zb_some hF
    by_cases c5 : r4 = 0
    · have hF := ip c5 hF
      obtain ⟨_, rfl⟩ := zr hF
      exact ((frpN (frpN (frpN (frrN h)))).tr (nf_X11_within e4))
    · have hF := im c5 hF
      obtain ⟨g6, hF⟩ := zg hF
      obtain ⟨g7, hF⟩ := zg hF
      have hF := zl_e hF
      have fk8 : FrN h (pt (pt h4 29 (gt h4 3 l0 4) (gt h4 3 l0 5) (gt h4 6 l1 0)) 3 l0 5 (wI ((gt (pt h4 29 (gt h4 3 l0 4) (gt h4 3 l0 5) (gt h4 6 l1 0)) 3 l0 5) + 1))) := (frpN (frpN ((frpN (frpN (frpN (frrN h)))).tr (nf_X11_within e4))))
      generalize pt (pt h4 29 (gt h4 3 l0 4) (gt h4 3 l0 5) (gt h4 6 l1 0)) 3 l0 5 (wI ((gt (pt h4 29 (gt h4 3 l0 4) (gt h4 3 l0 5) (gt h4 6 l1 0)) 3 l0 5) + 1)) = k8 at hF fk8
      obtain ⟨_, rfl⟩ := zr hF
      exact fk8
theorem nf_X3_giveOut {l0 l1 l2 l3 : Int} {h : zH} {r : Int} {h' : zH} (hF : F_X3_giveOut l0 l1 l2 l3 h = some (r, h')) : FrN h h' := n_X3_giveOut_0 hF
theorem n_X4_begin_0 {l0 l1 l2 l3 : Int} {h : zH} {r : Int} {h' : zH} (hF : F_X4_begin_0 l0 l1 l2 l3 h = some (r, h')) : FrN h h' := by
  unfold F_X4_begin_0 at hF
  obtain ⟨g1, hF⟩ := zg hF
  have hF := zl_e hF
  have fk2 : FrN h (pt (pt (pt (pt (pt (pt (pt (pt h 4 l0 0 l1) 4 l0 1 l2) 4 l0 2 1) 4 l0 3 l3) 4 l0 4 (-1)) 4 l0 5 (-1)) 4 l0 6 (-1)) 4 l0 7 (-1)) := (frpN (frpN (frpN (frpN (frpN (frpN (frpN (frpN (frrN h)))))))))
  generalize pt (pt (pt (pt (pt (pt (pt (pt h 4 l0 0 l1) 4 l0 1 l2) 4 l0 2 1) 4 l0 3 l3) 4 l0 4 (-1)) 4 l0 5 (-1)) 4 l0 6 (-1)) 4 l0 7 (-1) = k2 at hF fk2
  by_cases c3 : l3 = -1
  · have hF := ip c3 hF
    obtain ⟨_, rfl⟩ := zr hF
    exact fk2
  · have hF := im c3 hF
    obtain ⟨g4, hF⟩ := zg hF
    obtain ⟨_, rfl⟩ := zr hF
    exact (frpN fk2)
theorem nf_X4_begin {l0 l1 l2 l3 : Int} {h : zH} {r : Int} {h' : zH} (hF : F_X4_begin l0 l1 l2 l3 h = some (r, h')) : FrN h h' := n_X4_begin_0 hF
theorem n_X4_moveTo_32 {l0 l1 : Int} {h : zH} {r : Int} {h' : zH} (hF : F_X4_moveTo_32 l0 l1 h = some (r, h')) : FrN h h' := by
  unfold F_X4_moveTo_32 at hF
  obtain ⟨g1, hF⟩ := zg hF
  obtain ⟨_, rfl⟩ := zr hF
  exact (frpN (frrN h))
theorem n_X4_moveTo_0 {l0 l1 : Int} {h : zH} {r : Int} {h' : zH} (hF : F_X4_moveTo_0 l0 l1 h = some (r, h')) : FrN h h' := by
  unfold F_X4_moveTo_0 at hF
  obtain ⟨g2, hF⟩ := zg hF
  obtain ⟨r1, h1, e1, hF⟩ := zb_some hF
  obtain ⟨g3, hF⟩ := zg hF
  by_cases c4 : gt (pt (pt h1 4 l0 5 l1) 4 l0 6 (gt (pt h1 4 l0 5 l1) 9 l1 2)) 9 l1 2 = -1
  · have hF := ip c4 hF
    exact (frpN (frpN ((frrN h).tr (nf_X4_leaveScope e1)))).tr (n_X4_moveTo_32 hF)
  · have hF := im c4 hF
    obtain ⟨g5, hF⟩ := zg hF
    exact (frpN (frpN (frpN ((frrN h).tr (nf_X4_leaveScope e1))))).tr (n_X4_moveTo_32 hF)
theorem nf_X4_moveTo {l0 l1 : Int} {h : zH} {r : Int} {h' : zH} (hF : F_X4_moveTo l0 l1 h = some (r, h')) : FrN h h' := n_X4_moveTo_0 hF
theorem n_X1_put_0 {l0 l1 l2 : Int} {h : zH} {r : Int} {h' : zH} (hF : F_X1_put_0 l0 l1 l2 h = some (r, h')) : FrN h h' := by
  unfold F_X1_put_0 at hF
  obtain ⟨r1, h1, e1, hF⟩ := zb_some hF
  by_cases c2 : r1 = 0
  · have hF := ip c2 hF
    obtain ⟨_, rfl⟩ := zr hF
    exact ((frrN h).tr (nf_X11_within e1))
  · have hF := im c2 hF
    obtain ⟨g3, hF⟩ := zg hF
    obtain ⟨g4, hF⟩ := zg hF
    obtain ⟨g5, hF⟩ := zg hF
    obtain ⟨_, rfl⟩ := zr hF
    exact (frpN ((frrN h).tr (nf_X11_within e1)))
theorem nf_X1_put {l0 l1 l2 : Int} {h : zH} {r : Int} {h' : zH} (hF : F_X1_put l0 l1 l2 h = some (r, h')) : FrN h h' := n_X1_put_0 hF
theorem n_X8_makeLoan_65 {l1 l2 l6 : Int} {h : zH} {r : Int} {h' : zH} (hF : F_X8_makeLoan_65 l1 l2 l6 h = some (r, h')) : FrN h h' := by
  unfold F_X8_makeLoan_65 at hF
  obtain ⟨g2, hF⟩ := zg hF
  obtain ⟨r1, h1, e1, hF⟩ := zb_some hF
  obtain ⟨_, rfl⟩ := zr hF
  exact ((frrN h).tr (nf_X1_put e1))
theorem n_X8_makeLoan_0 {l0 l1 l2 l3 l4 l5 : Int} {h : zH} {r : Int} {h' : zH} (hF : F_X8_makeLoan_0 l0 l1 l2 l3 l4 l5 h = some (r, h')) : FrN h h' := by
  unfold F_X8_makeLoan_0 at hF
  obtain ⟨g1, hF⟩ := zg hF
  obtain ⟨r2, h2, e2, hF⟩ := zb_some hF
  by_cases c3 : r2 ≠ 0
  · have hF := ip c3 hF
    obtain ⟨g4, hF⟩ := zg hF
    obtain ⟨g5, hF⟩ := zg hF
    obtain ⟨g7, hF⟩ := zg hF
    obtain ⟨r6, h6, e6, hF⟩ := zb_some hF
    by_cases c8 : l4 = 1
    · have hF := ip c8 hF
      exact ((frpN ((frrN h).tr (nf_X11_within e2))).tr (nf_X4_begin e6)).tr (n_X8_makeLoan_65 hF)
    · have hF := im c8 hF
      obtain ⟨g9, hF⟩ := zg hF
      obtain ⟨g10, hF⟩ := zg hF
      obtain ⟨r11, h11, e11, hF⟩ := zb_some hF
      exact (((frpN ((frrN h).tr (nf_X11_within e2))).tr (nf_X4_begin e6)).tr (nf_X4_moveTo e11)).tr (n_X8_makeLoan_65 hF)
  · have hF := im c3 hF
    obtain ⟨_, rfl⟩ := zr hF
    exact ((frrN h).tr (nf_X11_within e2))
theorem nf_X8_makeLoan {l0 l1 l2 l3 l4 l5 : Int} {h : zH} {r : Int} {h' : zH} (hF : F_X8_makeLoan l0 l1 l2 l3 l4 l5 h = some (r, h')) : FrN h h' := n_X8_makeLoan_0 hF
theorem n_X6_addToTrace_0 {l0 l1 l2 : Int} {h : zH} {r : Int} {h' : zH} (hF : F_X6_addToTrace_0 l0 l1 l2 h = some (r, h')) : FrN h h' := by
  unfold F_X6_addToTrace_0 at hF
  obtain ⟨g1, hF⟩ := zg hF
  obtain ⟨r2, h2, e2, hF⟩ := zb_some hF
  by_cases c3 : r2 = 0
  · have hF := ip c3 hF
    obtain ⟨_, rfl⟩ := zr hF
    exact ((frrN h).tr (nf_X11_within e2))
  · have hF := im c3 hF
    obtain ⟨g4, hF⟩ := zg hF
    obtain ⟨g5, hF⟩ := zg hF
    obtain ⟨g6, hF⟩ := zg hF
    obtain ⟨g7, hF⟩ := zg hF
    have hF := zl_e hF
    have fk8 : FrN h (pt (pt h2 34 (gt h2 6 l0 5) (gt h2 6 l0 7) l1) 35 (gt (pt h2 34 (gt h2 6 l0 5) (gt h2 6 l0 7) l1) 6 l0 6) (gt (pt h2 34 (gt h2 6 l0 5) (gt h2 6 l0 7) l1) 6 l0 7) l2) := (frpN (frpN ((frrN h).tr (nf_X11_within e2))))
    generalize pt (pt h2 34 (gt h2 6 l0 5) (gt h2 6 l0 7) l1) 35 (gt (pt h2 34 (gt h2 6 l0 5) (gt h2 6 l0 7) l1) 6 l0 6) (gt (pt h2 34 (gt h2 6 l0 5) (gt h2 6 l0 7) l1) 6 l0 7) l2 = k8 at hF fk8
    obtain ⟨_, rfl⟩ := zr hF
    exact (frpN fk8)
theorem nf_X6_addToTrace {l0 l1 l2 : Int} {h : zH} {r : Int} {h' : zH} (hF : F_X6_addToTrace l0 l1 l2 h = some (r, h')) : FrN h h' := n_X6_addToTrace_0 hF
theorem n_X8_hire_42b {ag42 : Int → Int → Int → zH → zO} (hag42 : ∀ (l0 l3 l5 : Int) (h : zH) (r : Int) (h' : zH), ag42 l0 l3 l5 h = some (r, h') → FrN h h') {l0 l3 l5 : Int} {h : zH} {r : Int} {h' : zH} (hF : F_X8_hire_42b ag42 l0 l3 l5 h = some (r, h')) : FrN h h' := by
  unfold F_X8_hire_42b at hF
  obtain ⟨g1, hF⟩ := zg hF
  by_cases c2 : gt h 8 l0 3 < l5
  · have hF := ip c2 hF
    obtain ⟨_, rfl⟩ := zr hF
    exact (frrN h)
  · have hF := im c2 hF
    by_cases c3 : 10 < l5
    · have hF := ip c3 hF
      obtain ⟨_, rfl⟩ := zr hF
      exact (frrN h)
    · have hF := im c3 hF
      obtain ⟨g4, hF⟩ := zg hF
      obtain ⟨g5, hF⟩ := zg hF
      obtain ⟨g6, hF⟩ := zg hF
      obtain ⟨g8, hF⟩ := zg hF
      obtain ⟨r7, h7, e7, hF⟩ := zb_some hF
      exact ((frrN h).tr (nf_X6_addToTrace e7)).tr (hag42 _ _ _ _ _ _ hF)
theorem n_X8_hire_42 : ∀ (n : Nat) (l0 l3 l5 : Int) (h : zH) (r : Int) (h' : zH), F_X8_hire_42 n l0 l3 l5 h = some (r, h') → FrN h h'
  | 0, _, _, _, _, _, _, hF => by cases hF
  | n + 1, _, _, _, _, _, _, hF => n_X8_hire_42b (n_X8_hire_42 n) hF
theorem n_X8_hire_0 {l0 l1 l2 l3 l4 : Int} {h : zH} {r : Int} {h' : zH} (hF : F_X8_hire_0 l0 l1 l2 l3 l4 h = some (r, h')) : FrN h h' := by
  unfold F_X8_hire_0 at hF
  obtain ⟨g1, hF⟩ := zg hF
  by_cases c2 : l4 ≠ 1
  · have hF := ip c2 hF
    obtain ⟨g4, hF⟩ := zg hF
    obtain ⟨r3, h3, e3, hF⟩ := zb_some hF
    obtain ⟨r5, h5, e5, hF⟩ := zb_some hF
    by_cases c6 : l4 ≠ 1
    · have hF := ip c6 hF
      obtain ⟨_, rfl⟩ := zr hF
      exact (((frrN h).tr (nf_X3_giveOut e3)).tr (nf_X8_makeLoan e5))
    · have hF := im c6 hF
      exact (((frrN h).tr (nf_X3_giveOut e3)).tr (nf_X8_makeLoan e5)).tr (n_X8_hire_42 _ _ _ _ _ _ _ hF)
  · have hF := im c2 hF
    obtain ⟨g8, hF⟩ := zg hF
    obtain ⟨r7, h7, e7, hF⟩ := zb_some hF
    obtain ⟨r9, h9, e9, hF⟩ := zb_some hF
    by_cases c10 : l4 ≠ 1
    · have hF := ip c10 hF
      obtain ⟨_, rfl⟩ := zr hF
      exact (((frrN h).tr (nf_X3_giveOut e7)).tr (nf_X8_makeLoan e9))
    · have hF := im c10 hF
      exact (((frrN h).tr (nf_X3_giveOut e7)).tr (nf_X8_makeLoan e9)).tr (n_X8_hire_42 _ _ _ _ _ _ _ hF)
theorem nf_X8_hire {l0 l1 l2 l3 l4 : Int} {h : zH} {r : Int} {h' : zH} (hF : F_X8_hire l0 l1 l2 l3 l4 h = some (r, h')) : FrN h h' := n_X8_hire_0 hF
theorem n_X8_borrow_23 {l0 l1 l3 : Int} {h : zH} {r : Int} {h' : zH} (hF : F_X8_borrow_23 l0 l1 l3 h = some (r, h')) : FrN h h' := by
  unfold F_X8_borrow_23 at hF
  obtain ⟨g2, hF⟩ := zg hF
  obtain ⟨r1, h1, e1, hF⟩ := zb_some hF
  obtain ⟨_, rfl⟩ := zr hF
  exact ((frrN h).tr (nf_X8_fail e1))
theorem n_X8_borrow_0 {l0 l1 l2 l3 l4 : Int} {h : zH} {r : Int} {h' : zH} (hF : F_X8_borrow_0 l0 l1 l2 l3 l4 h = some (r, h')) : FrN h h' := by
  unfold F_X8_borrow_0 at hF
  obtain ⟨g1, hF⟩ := zg hF
  obtain ⟨g3, hF⟩ := zg hF
  obtain ⟨r2, h2, e2, hF⟩ := zb_some hF
  by_cases c4 : r2 = -1
  · have hF := ip c4 hF
    exact ((frrN h).tr (nf_X3_find e2)).tr (n_X8_borrow_23 hF)
  · have hF := im c4 hF
    obtain ⟨g5, hF⟩ := zg hF
    by_cases c6 : gt h2 6 r2 3 = 0
    · have hF := ip c6 hF
      obtain ⟨r7, h7, e7, hF⟩ := zb_some hF
      obtain ⟨_, rfl⟩ := zr hF
      exact (((frrN h).tr (nf_X3_find e2)).tr (nf_X8_hire e7))
    · have hF := im c6 hF
      exact ((frrN h).tr (nf_X3_find e2)).tr (n_X8_borrow_23 hF)
theorem nf_X8_borrow {l0 l1 l2 l3 l4 : Int} {h : zH} {r : Int} {h' : zH} (hF : F_X8_borrow l0 l1 l2 l3 l4 h = some (r, h')) : FrN h h' := n_X8_borrow_0 hF
theorem n_X3_firstOnRack_2b {ag2 : Int → Int → Int → zH → zO} (hag2 : ∀ (l0 l1 l2 : Int) (h : zH) (r : Int) (h' : zH), ag2 l0 l1 l2 h = some (r, h') → FrN h h') {l0 l1 l2 : Int} {h : zH} {r : Int} {h' : zH} (hF : F_X3_firstOnRack_2b ag2 l0 l1 l2 h = some (r, h')) : FrN h h' := by
  unfold F_X3_firstOnRack_2b at hF
  obtain ⟨g1, hF⟩ := zg hF
  by_cases c2 : gt h 3 l0 1 ≤ l2
  · have hF := ip c2 hF
    obtain ⟨_, rfl⟩ := zr hF
    exact (frrN h)
  · have hF := im c2 hF
    obtain ⟨g3, hF⟩ := zg hF
    obtain ⟨g4, hF⟩ := zg hF
    by_cases c5 : gt h 27 (gt h 3 l0 0) l2 = -1
    · have hF := ip c5 hF
      exact (frrN h).tr (hag2 _ _ _ _ _ _ hF)
    · have hF := im c5 hF
      obtain ⟨g6, hF⟩ := zg hF
      by_cases c7 : gt h 6 (gt h 27 (gt h 3 l0 0) l2) 1 ≠ l1
      · have hF := ip c7 hF
        exact (frrN h).tr (hag2 _ _ _ _ _ _ hF)
      · have hF := im c7 hF
        by_cases c8 : gt h 6 (gt h 27 (gt h 3 l0 0) l2) 3 ≠ 0
        · have hF := ip c8 hF
          exact (frrN h).tr (hag2 _ _ _ _ _ _ hF)
        · have hF := im c8 hF
          obtain ⟨_, rfl⟩ := zr hF
          exact (frrN h)
theorem n_X3_firstOnRack_2 : ∀ (n : Nat) (l0 l1 l2 : Int) (h : zH) (r : Int) (h' : zH), F_X3_firstOnRack_2 n l0 l1 l2 h = some (r, h') → FrN h h'
  | 0, _, _, _, _, _, _, hF => by cases hF
  | n + 1, _, _, _, _, _, _, hF => n_X3_firstOnRack_2b (n_X3_firstOnRack_2 n) hF
theorem n_X3_firstOnRack_0 {l0 l1 : Int} {h : zH} {r : Int} {h' : zH} (hF : F_X3_firstOnRack_0 l0 l1 h = some (r, h')) : FrN h h' := by
  unfold F_X3_firstOnRack_0 at hF
  exact (frrN h).tr (n_X3_firstOnRack_2 _ _ _ _ _ _ _ hF)
theorem nf_X3_firstOnRack {l0 l1 : Int} {h : zH} {r : Int} {h' : zH} (hF : F_X3_firstOnRack l0 l1 h = some (r, h')) : FrN h h' := n_X3_firstOnRack_0 hF
theorem n_X8_take_0 {l0 l1 l2 l3 : Int} {h : zH} {r : Int} {h' : zH} (hF : F_X8_take_0 l0 l1 l2 l3 h = some (r, h')) : FrN h h' := by
  unfold F_X8_take_0 at hF
  obtain ⟨g1, hF⟩ := zg hF
  obtain ⟨g3, hF⟩ := zg hF
  obtain ⟨r2, h2, e2, hF⟩ := zb_some hF
  by_cases c4 : r2 ≠ -1
  · have hF := ip c4 hF
    obtain ⟨r5, h5, e5, hF⟩ := zb_some hF
    obtain ⟨_, rfl⟩ := zr hF
    exact (((frrN h).tr (nf_X3_firstOnRack e2)).tr (nf_X8_hire e5))
  · have hF := im c4 hF
    obtain ⟨r6, h6, e6, hF⟩ := zb_some hF
    obtain ⟨_, rfl⟩ := zr hF
    exact (((frrN h).tr (nf_X3_firstOnRack e2)).tr (nf_X8_fail e6))
theorem nf_X8_take {l0 l1 l2 l3 : Int} {h : zH} {r : Int} {h' : zH} (hF : F_X8_take l0 l1 l2 l3 h = some (r, h')) : FrN h h' := n_X8_take_0 hF
theorem n_X1_in_0 {l0 l1 : Int} {h : zH} {r : Int} {h' : zH} (hF : F_X1_in_0 l0 l1 h = some (r, h')) : FrN h h' := by
  unfold F_X1_in_0 at hF
  obtain ⟨r1, h1, e1, hF⟩ := zb_some hF
  by_cases c2 : r1 = 0
  · have hF := ip c2 hF
    obtain ⟨_, rfl⟩ := zr hF
    exact ((frrN h).tr (nf_X11_within e1))
  · have hF := im c2 hF
    obtain ⟨g3, hF⟩ := zg hF
    obtain ⟨g4, hF⟩ := zg hF
    obtain ⟨g5, hF⟩ := zg hF
    obtain ⟨_, rfl⟩ := zr hF
    exact ((frrN h).tr (nf_X11_within e1))
theorem nf_X1_in {l0 l1 : Int} {h : zH} {r : Int} {h' : zH} (hF : F_X1_in l0 l1 h = some (r, h')) : FrN h h' := n_X1_in_0 hF
theorem n_X8_misuseOf_0 {l0 l1 : Int} {h : zH} {r : Int} {h' : zH} (hF : F_X8_misuseOf_0 l0 l1 h = some (r, h')) : FrN h h' := by
  unfold F_X8_misuseOf_0 at hF
  by_cases c1 : l0 = -1
  · have hF := ip c1 hF
    obtain ⟨_, rfl⟩ := zr hF
    exact (frrN h)
  · have hF := im c1 hF
    obtain ⟨g2, hF⟩ := zg hF
    by_cases c3 : gt h 4 l0 2 ≠ 0
    · have hF := ip c3 hF
      by_cases c4 : l1 = 0
      · have hF := ip c4 hF
        obtain ⟨_, rfl⟩ := zr hF
        exact (frrN h)
      · have hF := im c4 hF
        by_cases c5 : gt h 4 l0 4 = -1
        · have hF := ip c5 hF
          obtain ⟨_, rfl⟩ := zr hF
          exact (frrN h)
        · have hF := im c5 hF
          obtain ⟨_, rfl⟩ := zr hF
          exact (frrN h)
    · have hF := im c3 hF
      obtain ⟨_, rfl⟩ := zr hF
      exact (frrN h)
theorem nf_X8_misuseOf {l0 l1 : Int} {h : zH} {r : Int} {h' : zH} (hF : F_X8_misuseOf l0 l1 h = some (r, h')) : FrN h h' := n_X8_misuseOf_0 hF
theorem n_X8_use_0 {l0 l1 l2 : Int} {h : zH} {r : Int} {h' : zH} (hF : F_X8_use_0 l0 l1 l2 h = some (r, h')) : FrN h h' := by
  unfold F_X8_use_0 at hF
  obtain ⟨r1, h1, e1, hF⟩ := zb_some hF
  by_cases c2 : r1 = (-1)
  · have hF := ip c2 hF
    obtain ⟨g3, hF⟩ := zg hF
    obtain ⟨g4, hF⟩ := zg hF
    obtain ⟨r5, h5, e5, hF⟩ := zb_some hF
    obtain ⟨g7, hF⟩ := zg hF
    obtain ⟨r6, h6, e6, hF⟩ := zb_some hF
    by_cases c8 : r6 = 0
    · have hF := ip c8 hF
      obtain ⟨_, rfl⟩ := zr hF
      exact ((((frrN h).tr (nf_X8_misuseOf e1)).tr (nf_X8_partOf e5)).tr (nf_X7_meets e6))
    · have hF := im c8 hF
      obtain ⟨r9, h9, e9, hF⟩ := zb_some hF
      obtain ⟨r10, h10, e10, hF⟩ := zb_some hF
      obtain ⟨_, rfl⟩ := zr hF
      exact ((((((frrN h).tr (nf_X8_misuseOf e1)).tr (nf_X8_partOf e5)).tr (nf_X7_meets e6)).tr (nf_X8_partOf e9)).tr (nf_X8_fail e10))
  · have hF := im c2 hF
    obtain ⟨r11, h11, e11, hF⟩ := zb_some hF
    obtain ⟨g13, hF⟩ := zg hF
    obtain ⟨r12, h12, e12, hF⟩ := zb_some hF
    obtain ⟨_, rfl⟩ := zr hF
    exact ((((frrN h).tr (nf_X8_misuseOf e1)).tr (nf_X8_partOf e11)).tr (nf_X8_fail e12))
theorem nf_X8_use {l0 l1 l2 : Int} {h : zH} {r : Int} {h' : zH} (hF : F_X8_use l0 l1 l2 h = some (r, h')) : FrN h h' := n_X8_use_0 hF
theorem n_X8_bringBack_0 {l0 l1 l2 : Int} {h : zH} {r : Int} {h' : zH} (hF : F_X8_bringBack_0 l0 l1 l2 h = some (r, h')) : FrN h h' := by
  unfold F_X8_bringBack_0 at hF
  obtain ⟨r1, h1, e1, hF⟩ := zb_some hF
  by_cases c2 : r1 = (-1)
  · have hF := ip c2 hF
    obtain ⟨g4, hF⟩ := zg hF
    obtain ⟨r3, h3, e3, hF⟩ := zb_some hF
    by_cases c5 : r3 = 0
    · have hF := ip c5 hF
      obtain ⟨_, rfl⟩ := zr hF
      exact (((frrN h).tr (nf_X8_misuseOf e1)).tr (nf_X8_giveUp e3))
    · have hF := im c5 hF
      obtain ⟨r6, h6, e6, hF⟩ := zb_some hF
      obtain ⟨r7, h7, e7, hF⟩ := zb_some hF
      obtain ⟨_, rfl⟩ := zr hF
      exact (((((frrN h).tr (nf_X8_misuseOf e1)).tr (nf_X8_giveUp e3)).tr (nf_X8_partOf e6)).tr (nf_X8_fail e7))
  · have hF := im c2 hF
    obtain ⟨r8, h8, e8, hF⟩ := zb_some hF
    obtain ⟨g10, hF⟩ := zg hF
    obtain ⟨r9, h9, e9, hF⟩ := zb_some hF
    obtain ⟨_, rfl⟩ := zr hF
    exact ((((frrN h).tr (nf_X8_misuseOf e1)).tr (nf_X8_partOf e8)).tr (nf_X8_fail e9))
theorem nf_X8_bringBack {l0 l1 l2 : Int} {h : zH} {r : Int} {h' : zH} (hF : F_X8_bringBack l0 l1 l2 h = some (r, h')) : FrN h h' := n_X8_bringBack_0 hF
theorem n_X8_lendOn_0 {l0 l1 l2 l3 : Int} {h : zH} {r : Int} {h' : zH} (hF : F_X8_lendOn_0 l0 l1 l2 l3 h = some (r, h')) : FrN h h' := by
  unfold F_X8_lendOn_0 at hF
  obtain ⟨r1, h1, e1, hF⟩ := zb_some hF
  by_cases c2 : r1 = (-1)
  · have hF := ip c2 hF
    obtain ⟨g3, hF⟩ := zg hF
    obtain ⟨g5, hF⟩ := zg hF
    obtain ⟨r4, h4, e4, hF⟩ := zb_some hF
    obtain ⟨_, rfl⟩ := zr hF
    exact (((frrN h).tr (nf_X8_misuseOf e1)).tr (nf_X8_makeLoan e4))
  · have hF := im c2 hF
    obtain ⟨r6, h6, e6, hF⟩ := zb_some hF
    obtain ⟨g8, hF⟩ := zg hF
    obtain ⟨r7, h7, e7, hF⟩ := zb_some hF
    obtain ⟨_, rfl⟩ := zr hF
    exact ((((frrN h).tr (nf_X8_misuseOf e1)).tr (nf_X8_partOf e6)).tr (nf_X8_fail e7))
theorem nf_X8_lendOn {l0 l1 l2 l3 : Int} {h : zH} {r : Int} {h' : zH} (hF : F_X8_lendOn l0 l1 l2 l3 h = some (r, h')) : FrN h h' := n_X8_lendOn_0 hF
theorem n_X8_passOn_46 {l0 l1 l2 : Int} {h : zH} {r : Int} {h' : zH} (hF : F_X8_passOn_46 l0 l1 l2 h = some (r, h')) : FrN h h' := by
  unfold F_X8_passOn_46 at hF
  obtain ⟨r1, h1, e1, hF⟩ := zb_some hF
  obtain ⟨g3, hF⟩ := zg hF
  obtain ⟨r2, h2, e2, hF⟩ := zb_some hF
  obtain ⟨_, rfl⟩ := zr hF
  exact (((frrN h).tr (nf_X8_partOf e1)).tr (nf_X8_fail e2))
theorem n_X8_passOn_0 {l0 l1 l2 l3 : Int} {h : zH} {r : Int} {h' : zH} (hF : F_X8_passOn_0 l0 l1 l2 l3 h = some (r, h')) : FrN h h' := by
  unfold F_X8_passOn_0 at hF
  obtain ⟨r1, h1, e1, hF⟩ := zb_some hF
  by_cases c2 : r1 = (-1)
  · have hF := ip c2 hF
    obtain ⟨g3, hF⟩ := zg hF
    by_cases c4 : gt h1 4 l2 1 = 1
    · have hF := ip c4 hF
      exact ((frrN h).tr (nf_X8_misuseOf e1)).tr (n_X8_passOn_46 hF)
    · have hF := im c4 hF
      obtain ⟨g5, hF⟩ := zg hF
      obtain ⟨r6, h6, e6, hF⟩ := zb_some hF
      by_cases c7 : r6 ≠ 0
      · have hF := ip c7 hF
        obtain ⟨g8, hF⟩ := zg hF
        obtain ⟨g9, hF⟩ := zg hF
        obtain ⟨r10, h10, e10, hF⟩ := zb_some hF
        obtain ⟨_, rfl⟩ := zr hF
        exact ((((frrN h).tr (nf_X8_misuseOf e1)).tr (nf_X11_within e6)).tr (nf_X4_moveTo e10))
      · have hF := im c7 hF
        exact (((frrN h).tr (nf_X8_misuseOf e1)).tr (nf_X11_within e6)).tr (n_X8_passOn_46 hF)
  · have hF := im c2 hF
    obtain ⟨r11, h11, e11, hF⟩ := zb_some hF
    obtain ⟨g13, hF⟩ := zg hF
    obtain ⟨r12, h12, e12, hF⟩ := zb_some hF
    obtain ⟨_, rfl⟩ := zr hF
    exact ((((frrN h).tr (nf_X8_misuseOf e1)).tr (nf_X8_partOf e11)).tr (nf_X8_fail e12))
theorem nf_X8_passOn {l0 l1 l2 l3 : Int} {h : zH} {r : Int} {h' : zH} (hF : F_X8_passOn l0 l1 l2 l3 h = some (r, h')) : FrN h h' := n_X8_passOn_0 hF
theorem n_X8_callAct_43 {l0 l1 : Int} {h : zH} {r : Int} {h' : zH} (hF : F_X8_callAct_43 l0 l1 h = some (r, h')) : FrN h h' := by
  unfold F_X8_callAct_43 at hF
  obtain ⟨g2, hF⟩ := zg hF
  obtain ⟨r1, h1, e1, hF⟩ := zb_some hF
  obtain ⟨_, rfl⟩ := zr hF
  exact ((frrN h).tr (nf_X8_fail e1))
theorem n_X8_callAct_0 {l0 l1 l2 l3 : Int} {h : zH} {r : Int} {h' : zH} (hF : F_X8_callAct_0 l0 l1 l2 l3 h = some (r, h')) : FrN h h' := by
  unfold F_X8_callAct_0 at hF
  obtain ⟨g1, hF⟩ := zg hF
  obtain ⟨r2, h2, e2, hF⟩ := zb_some hF
  by_cases c3 : gt h2 8 l0 3 < 10
  · have hF := ip c3 hF
    by_cases c4 : r2 = -1
    · have hF := ip c4 hF
      exact ((frrN h).tr (nf_X11_findScript e2)).tr (n_X8_callAct_43 hF)
    · have hF := im c4 hF
      obtain ⟨g6, hF⟩ := zg hF
      obtain ⟨r5, h5, e5, hF⟩ := zb_some hF
      by_cases c7 : r5 = 0
      · have hF := ip c7 hF
        obtain ⟨r8, h8, e8, hF⟩ := zb_some hF
        obtain ⟨_, rfl⟩ := zr hF
        exact ((((frrN h).tr (nf_X11_findScript e2)).tr (nf_X10_faultNumber e5)).tr (nf_X8_enter e8))
      · have hF := im c7 hF
        exact (((frrN h).tr (nf_X11_findScript e2)).tr (nf_X10_faultNumber e5)).tr (n_X8_callAct_43 hF)
  · have hF := im c3 hF
    obtain ⟨r9, h9, e9, hF⟩ := zb_some hF
    obtain ⟨_, rfl⟩ := zr hF
    exact (((frrN h).tr (nf_X11_findScript e2)).tr (nf_X8_fail e9))
theorem nf_X8_callAct {l0 l1 l2 l3 : Int} {h : zH} {r : Int} {h' : zH} (hF : F_X8_callAct l0 l1 l2 l3 h = some (r, h')) : FrN h h' := n_X8_callAct_0 hF
theorem n_X8_beginBlock_68 {l1 : Int} {h : zH} {r : Int} {h' : zH} (hF : F_X8_beginBlock_68 l1 h = some (r, h')) : FrN h h' := by
  unfold F_X8_beginBlock_68 at hF
  obtain ⟨g1, hF⟩ := zg hF
  obtain ⟨_, rfl⟩ := zr hF
  exact (frpN (frrN h))
theorem n_X8_beginBlock_28 {l0 l1 l2 l3 : Int} {h : zH} {r : Int} {h' : zH} (hF : F_X8_beginBlock_28 l0 l1 l2 l3 h = some (r, h')) : FrN h h' := by
  unfold F_X8_beginBlock_28 at hF
  obtain ⟨g1, hF⟩ := zg hF
  by_cases c2 : l2 ≠ 11
  · have hF := ip c2 hF
    obtain ⟨g4, hF⟩ := zg hF
    obtain ⟨r3, h3, e3, hF⟩ := zb_some hF
    by_cases c5 : l2 ≠ 12
    · have hF := ip c5 hF
      exact ((frrN h).tr (nf_X8_push e3)).tr (n_X8_beginBlock_68 hF)
    · have hF := im c5 hF
      obtain ⟨r6, h6, e6, hF⟩ := zb_some hF
      exact (((frrN h).tr (nf_X8_push e3)).tr (nf_X8_openScope e6)).tr (n_X8_beginBlock_68 hF)
  · have hF := im c2 hF
    obtain ⟨g8, hF⟩ := zg hF
    obtain ⟨r7, h7, e7, hF⟩ := zb_some hF
    by_cases c9 : l2 ≠ 12
    · have hF := ip c9 hF
      exact ((frrN h).tr (nf_X8_push e7)).tr (n_X8_beginBlock_68 hF)
    · have hF := im c9 hF
      obtain ⟨r10, h10, e10, hF⟩ := zb_some hF
      exact (((frrN h).tr (nf_X8_push e7)).tr (nf_X8_openScope e10)).tr (n_X8_beginBlock_68 hF)
theorem n_X8_beginBlock_0 {l0 l1 l2 l3 : Int} {h : zH} {r : Int} {h' : zH} (hF : F_X8_beginBlock_0 l0 l1 l2 l3 h = some (r, h')) : FrN h h' := by
  unfold F_X8_beginBlock_0 at hF
  by_cases c1 : l2 ≠ 11
  · have hF := ip c1 hF
    exact (frrN h).tr (n_X8_beginBlock_28 hF)
  · have hF := im c1 hF
    by_cases c2 : l3 ≠ 0
    · have hF := ip c2 hF
      exact (frrN h).tr (n_X8_beginBlock_28 hF)
    · have hF := im c2 hF
      obtain ⟨g3, hF⟩ := zg hF
      obtain ⟨g5, hF⟩ := zg hF
      obtain ⟨r4, h4, e4, hF⟩ := zb_some hF
      obtain ⟨_, rfl⟩ := zr hF
      exact (frpN ((frrN h).tr (nf_X10_nextOf e4)))
theorem nf_X8_beginBlock {l0 l1 l2 l3 : Int} {h : zH} {r : Int} {h' : zH} (hF : F_X8_beginBlock l0 l1 l2 l3 h = some (r, h')) : FrN h h' := n_X8_beginBlock_0 hF
theorem n_X8_doLine_223 {l0 l1 l2 : Int} {h : zH} {r : Int} {h' : zH} (hF : F_X8_doLine_223 l0 l1 l2 h = some (r, h')) : FrN h h' := by
  unfold F_X8_doLine_223 at hF
  obtain ⟨g1, hF⟩ := zg hF
  by_cases c2 : gt h 8 l0 12 ≠ 0
  · have hF := ip c2 hF
    obtain ⟨_, rfl⟩ := zr hF
    exact (frrN h)
  · have hF := im c2 hF
    by_cases c3 : 6 < l2
    · have hF := ip c3 hF
      obtain ⟨_, rfl⟩ := zr hF
      exact (frrN h)
    · have hF := im c3 hF
      obtain ⟨g4, hF⟩ := zg hF
      obtain ⟨_, rfl⟩ := zr hF
      exact (frpN (frrN h))
theorem n_X8_doLine_0 {l0 l1 l2 : Int} {h : zH} {r : Int} {h' : zH} (hF : F_X8_doLine_0 l0 l1 l2 h = some (r, h')) : FrN h h' := by
  unfold F_X8_doLine_0 at hF
  obtain ⟨g1, hF⟩ := zg hF
  obtain ⟨g3, hF⟩ := zg hF
  obtain ⟨r2, h2, e2, hF⟩ := zb_some hF
  obtain ⟨g5, hF⟩ := zg hF
  obtain ⟨r4, h4, e4, hF⟩ := zb_some hF
  by_cases c6 : l2 = 0
  · have hF := ip c6 hF
    obtain ⟨g10, hF⟩ := zg hF
    obtain ⟨r9, h9, e9, hF⟩ := zb_some hF
    exact ((((frrN h).tr (nf_X10_aAt e2)).tr (nf_X10_bAt e4)).tr (nf_X8_borrow e9)).tr (n_X8_doLine_223 hF)
  · have hF := im c6 hF
    by_cases c11 : l2 = 1
    · have hF := ip c11 hF
      obtain ⟨g15, hF⟩ := zg hF
      obtain ⟨r14, h14, e14, hF⟩ := zb_some hF
      exact ((((frrN h).tr (nf_X10_aAt e2)).tr (nf_X10_bAt e4)).tr (nf_X8_take e14)).tr (n_X8_doLine_223 hF)
    · have hF := im c11 hF
      by_cases c16 : l2 = 2
      · have hF := ip c16 hF
        obtain ⟨g20, hF⟩ := zg hF
        obtain ⟨r19, h19, e19, hF⟩ := zb_some hF
        exact ((((frrN h).tr (nf_X10_aAt e2)).tr (nf_X10_bAt e4)).tr (nf_X8_borrow e19)).tr (n_X8_doLine_223 hF)
      · have hF := im c16 hF
        by_cases c21 : l2 = 3
        · have hF := ip c21 hF
          obtain ⟨r25, h25, e25, hF⟩ := zb_some hF
          obtain ⟨g27, hF⟩ := zg hF
          obtain ⟨r26, h26, e26, hF⟩ := zb_some hF
          exact (((((frrN h).tr (nf_X10_aAt e2)).tr (nf_X10_bAt e4)).tr (nf_X1_in e25)).tr (nf_X8_use e26)).tr (n_X8_doLine_223 hF)
        · have hF := im c21 hF
          by_cases c28 : l2 = 4
          · have hF := ip c28 hF
            obtain ⟨r32, h32, e32, hF⟩ := zb_some hF
            obtain ⟨g34, hF⟩ := zg hF
            obtain ⟨r33, h33, e33, hF⟩ := zb_some hF
            exact (((((frrN h).tr (nf_X10_aAt e2)).tr (nf_X10_bAt e4)).tr (nf_X1_in e32)).tr (nf_X8_bringBack e33)).tr (n_X8_doLine_223 hF)
          · have hF := im c28 hF
            by_cases c35 : l2 = 5
            · have hF := ip c35 hF
              obtain ⟨r39, h39, e39, hF⟩ := zb_some hF
              obtain ⟨g41, hF⟩ := zg hF
              obtain ⟨r40, h40, e40, hF⟩ := zb_some hF
              exact (((((frrN h).tr (nf_X10_aAt e2)).tr (nf_X10_bAt e4)).tr (nf_X1_in e39)).tr (nf_X8_lendOn e40)).tr (n_X8_doLine_223 hF)
            · have hF := im c35 hF
              by_cases c42 : l2 = 6
              · have hF := ip c42 hF
                obtain ⟨r46, h46, e46, hF⟩ := zb_some hF
                obtain ⟨g48, hF⟩ := zg hF
                obtain ⟨r47, h47, e47, hF⟩ := zb_some hF
                exact (((((frrN h).tr (nf_X10_aAt e2)).tr (nf_X10_bAt e4)).tr (nf_X1_in e46)).tr (nf_X8_passOn e47)).tr (n_X8_doLine_223 hF)
              · have hF := im c42 hF
                by_cases c49 : l2 = 7
                · have hF := ip c49 hF
                  obtain ⟨r53, h53, e53, hF⟩ := zb_some hF
                  obtain ⟨g55, hF⟩ := zg hF
                  obtain ⟨r54, h54, e54, hF⟩ := zb_some hF
                  exact (((((frrN h).tr (nf_X10_aAt e2)).tr (nf_X10_bAt e4)).tr (nf_X1_in e53)).tr (nf_X8_callAct e54)).tr (n_X8_doLine_223 hF)
                · have hF := im c49 hF
                  by_cases c56 : l2 = 8
                  · have hF := ip c56 hF
                    obtain ⟨g60, hF⟩ := zg hF
                    obtain ⟨r59, h59, e59, hF⟩ := zb_some hF
                    exact ((((frrN h).tr (nf_X10_aAt e2)).tr (nf_X10_bAt e4)).tr (nf_X8_fail e59)).tr (n_X8_doLine_223 hF)
                  · have hF := im c56 hF
                    by_cases c61 : l2 = 9
                    · have hF := ip c61 hF
                      obtain ⟨g63, hF⟩ := zg hF
                      exact (frpN (((frrN h).tr (nf_X10_aAt e2)).tr (nf_X10_bAt e4))).tr (n_X8_doLine_223 hF)
                    · have hF := im c61 hF
                      by_cases c64 : l2 = 10
                      · have hF := ip c64 hF
                        obtain ⟨g66, hF⟩ := zg hF
                        exact (frpN (((frrN h).tr (nf_X10_aAt e2)).tr (nf_X10_bAt e4))).tr (n_X8_doLine_223 hF)
                      · have hF := im c64 hF
                        obtain ⟨g68, hF⟩ := zg hF
                        obtain ⟨r67, h67, e67, hF⟩ := zb_some hF
                        exact ((((frrN h).tr (nf_X10_aAt e2)).tr (nf_X10_bAt e4)).tr (nf_X8_beginBlock e67)).tr (n_X8_doLine_223 hF)
theorem nf_X8_doLine {l0 l1 l2 : Int} {h : zH} {r : Int} {h' : zH} (hF : F_X8_doLine l0 l1 l2 h = some (r, h')) : FrN h h' := n_X8_doLine_0 hF
theorem n_X8_spend_49 {ag0 : Int → zH → zO} (hag0 : ∀ (l0 : Int) (h : zH) (r : Int) (h' : zH), ag0 l0 h = some (r, h') → FrN h h') {l0 : Int} {h : zH} {r : Int} {h' : zH} (hF : F_X8_spend_49 ag0 l0 h = some (r, h')) : FrN h h' := by
  unfold F_X8_spend_49 at hF
  obtain ⟨g1, hF⟩ := zg hF
  exact (frpN (frpN (frrN h))).tr (hag0 _ _ _ _ hF)
theorem n_X8_spend_19b {ag0 : Int → zH → zO} {ag19 : Int → Int → Int → zH → zO} (hag0 : ∀ (l0 : Int) (h : zH) (r : Int) (h' : zH), ag0 l0 h = some (r, h') → FrN h h') (hag19 : ∀ (l0 l1 l2 : Int) (h : zH) (r : Int) (h' : zH), ag19 l0 l1 l2 h = some (r, h') → FrN h h') {l0 l1 l2 : Int} {h : zH} {r : Int} {h' : zH} (hF : F_X8_spend_19b ag0 ag19 l0 l1 l2 h = some (r, h')) : FrN h h' := by
  unfold F_X8_spend_19b at hF
  by_cases c1 : 160 ≤ l2
  · have hF := ip c1 hF
    exact (frrN h).tr (n_X8_spend_49 hag0 hF)
  · have hF := im c1 hF
    obtain ⟨g2, hF⟩ := zg hF
    by_cases c3 : gt h 9 l1 2 = -1
    · have hF := ip c3 hF
      exact (frrN h).tr (n_X8_spend_49 hag0 hF)
    · have hF := im c3 hF
      obtain ⟨g5, hF⟩ := zg hF
      obtain ⟨r4, h4, e4, hF⟩ := zb_some hF
      exact ((frrN h).tr (nf_X8_giveUp e4)).tr (hag19 _ _ _ _ _ _ hF)
theorem n_X8_spend_19 {ag0 : Int → zH → zO} (hag0 : ∀ (l0 : Int) (h : zH) (r : Int) (h' : zH), ag0 l0 h = some (r, h') → FrN h h') : ∀ (n : Nat) (l0 l1 l2 : Int) (h : zH) (r : Int) (h' : zH), F_X8_spend_19 ag0 n l0 l1 l2 h = some (r, h') → FrN h h'
  | 0, _, _, _, _, _, _, hF => by cases hF
  | n + 1, _, _, _, _, _, _, hF => n_X8_spend_19b hag0 (n_X8_spend_19 hag0 n) hF
theorem n_X8_spend_0b {ag0 : Int → zH → zO} (hag0 : ∀ (l0 : Int) (h : zH) (r : Int) (h' : zH), ag0 l0 h = some (r, h') → FrN h h') {l0 : Int} {h : zH} {r : Int} {h' : zH} (hF : F_X8_spend_0b ag0 l0 h = some (r, h')) : FrN h h' := by
  unfold F_X8_spend_0b at hF
  obtain ⟨g1, hF⟩ := zg hF
  by_cases c2 : gt h 8 l0 7 ≤ 0
  · have hF := ip c2 hF
    obtain ⟨_, rfl⟩ := zr hF
    exact (frrN h)
  · have hF := im c2 hF
    obtain ⟨g3, hF⟩ := zg hF
    obtain ⟨g4, hF⟩ := zg hF
    exact (frrN h).tr (n_X8_spend_19 hag0 _ _ _ _ _ _ _ hF)
theorem n_X8_spend_0 : ∀ (n : Nat) (l0 : Int) (h : zH) (r : Int) (h' : zH), F_X8_spend_0 n l0 h = some (r, h') → FrN h h'
  | 0, _, _, _, _, hF => by cases hF
  | n + 1, _, _, _, _, hF => n_X8_spend_0b (n_X8_spend_0 n) hF
theorem nf_X8_spend {l0 : Int} {h : zH} {r : Int} {h' : zH} (hF : F_X8_spend l0 h = some (r, h')) : FrN h h' := n_X8_spend_0 _ _ _ _ _ hF
theorem n_X8_perform_141 {l0 : Int} {h : zH} {r : Int} {h' : zH} (hF : F_X8_perform_141 l0 h = some (r, h')) : FrN h h' := by
  unfold F_X8_perform_141 at hF
  obtain ⟨g1, hF⟩ := zg hF
  by_cases c2 : gt h 8 l0 3 ≤ 0
  · have hF := ip c2 hF
    by_cases c3 : gt h 8 l0 12 ≠ 3
    · have hF := ip c3 hF
      obtain ⟨_, rfl⟩ := zr hF
      exact (frpN (frrN h))
    · have hF := im c3 hF
      obtain ⟨_, rfl⟩ := zr hF
      exact (frpN (frrN h))
  · have hF := im c2 hF
    obtain ⟨r4, h4, e4, hF⟩ := zb_some hF
    obtain ⟨_, rfl⟩ := zr hF
    exact (frpN ((frrN h).tr (nf_X8_spend e4)))
theorem n_X8_perform_111 {ag21 : Int → Int → zH → zO} (hag21 : ∀ (l0 l3 : Int) (h : zH) (r : Int) (h' : zH), ag21 l0 l3 h = some (r, h') → FrN h h') {l0 l3 l4 : Int} {h : zH} {r : Int} {h' : zH} (hF : F_X8_perform_111 ag21 l0 l3 l4 h = some (r, h')) : FrN h h' := by
  unfold F_X8_perform_111 at hF
  obtain ⟨g2, hF⟩ := zg hF
  obtain ⟨r1, h1, e1, hF⟩ := zb_some hF
  exact ((frrN h).tr (nf_X8_reachMark e1)).tr (hag21 _ _ _ _ _ hF)
theorem n_X8_perform_21b {ag21 : Int → Int → zH → zO} (hag21 : ∀ (l0 l3 : Int) (h : zH) (r : Int) (h' : zH), ag21 l0 l3 h = some (r, h') → FrN h h') {l0 l3 : Int} {h : zH} {r : Int} {h' : zH} (hF : F_X8_perform_21b ag21 l0 l3 h = some (r, h')) : FrN h h' := by
  unfold F_X8_perform_21b at hF
  by_cases c1 : 1000000 ≤ l3
  · have hF := ip c1 hF
    exact (frrN h).tr (n_X8_perform_141 hF)
  · have hF := im c1 hF
    obtain ⟨g2, hF⟩ := zg hF
    by_cases c3 : gt h 8 l0 3 ≤ 0
    · have hF := ip c3 hF
      exact (frrN h).tr (n_X8_perform_141 hF)
    · have hF := im c3 hF
      by_cases c4 : gt h 8 l0 12 = 4
      · have hF := ip c4 hF
        exact (frrN h).tr (n_X8_perform_141 hF)
      · have hF := im c4 hF
        obtain ⟨g5, hF⟩ := zg hF
        obtain ⟨g6, hF⟩ := zg hF
        obtain ⟨g7, hF⟩ := zg hF
        obtain ⟨g9, hF⟩ := zg hF
        obtain ⟨r8, h8, e8, hF⟩ := zb_some hF
        by_cases c10 : gt h8 8 l0 12 = 0
        · have hF := ip c10 hF
          by_cases c11 : r8 = (-1)
          · have hF := ip c11 hF
            exact ((frrN h).tr (nf_X10_opAt e8)).tr (n_X8_perform_111 hag21 hF)
          · have hF := im c11 hF
            by_cases c12 : r8 = 14
            · have hF := ip c12 hF
              exact ((frrN h).tr (nf_X10_opAt e8)).tr (n_X8_perform_111 hag21 hF)
            · have hF := im c12 hF
              by_cases c13 : r8 = 15
              · have hF := ip c13 hF
                exact ((frrN h).tr (nf_X10_opAt e8)).tr (n_X8_perform_111 hag21 hF)
              · have hF := im c13 hF
                by_cases c14 : r8 ≠ 16
                · have hF := ip c14 hF
                  obtain ⟨r15, h15, e15, hF⟩ := zb_some hF
                  by_cases c16 : r15 = 0
                  · have hF := ip c16 hF
                    exact (((frrN h).tr (nf_X10_opAt e8)).tr (nf_X8_step e15)).tr (hag21 _ _ _ _ _ hF)
                  · have hF := im c16 hF
                    obtain ⟨r17, h17, e17, hF⟩ := zb_some hF
                    exact ((((frrN h).tr (nf_X10_opAt e8)).tr (nf_X8_step e15)).tr (nf_X8_doLine e17)).tr (hag21 _ _ _ _ _ hF)
                · have hF := im c14 hF
                  exact ((frrN h).tr (nf_X10_opAt e8)).tr (n_X8_perform_111 hag21 hF)
        · have hF := im c10 hF
          obtain ⟨r18, h18, e18, hF⟩ := zb_some hF
          exact (((frrN h).tr (nf_X10_opAt e8)).tr (nf_X8_leave e18)).tr (hag21 _ _ _ _ _ hF)
theorem n_X8_perform_21 : ∀ (n : Nat) (l0 l3 : Int) (h : zH) (r : Int) (h' : zH), F_X8_perform_21 n l0 l3 h = some (r, h') → FrN h h'
  | 0, _, _, _, _, _, hF => by cases hF
  | n + 1, _, _, _, _, _, hF => n_X8_perform_21b (n_X8_perform_21 n) hF
theorem n_X8_perform_0 {l0 l1 l2 : Int} {h : zH} {r : Int} {h' : zH} (hF : F_X8_perform_0 l0 l1 l2 h = some (r, h')) : FrN h h' := by
  unfold F_X8_perform_0 at hF
  obtain ⟨g2, hF⟩ := zg hF
  obtain ⟨r1, h1, e1, hF⟩ := zb_some hF
  obtain ⟨r3, h3, e3, hF⟩ := zb_some hF
  obtain ⟨r4, h4, e4, hF⟩ := zb_some hF
  exact ((((frrN h).tr (nf_X8_reset e1)).tr (nf_X11_findScript e3)).tr (nf_X8_enter e4)).tr (n_X8_perform_21 _ _ _ _ _ _ hF)
theorem nf_X8_perform {l0 l1 l2 : Int} {h : zH} {r : Int} {h' : zH} (hF : F_X8_perform l0 l1 l2 h = some (r, h')) : FrN h h' := n_X8_perform_0 hF
theorem n_X11_run_0 {l0 l1 l2 : Int} {h : zH} {r : Int} {h' : zH} (hF : F_X11_run_0 l0 l1 l2 h = some (r, h')) : FrN h h' := by
  unfold F_X11_run_0 at hF
  obtain ⟨g1, hF⟩ := zg hF
  obtain ⟨r2, h2, e2, hF⟩ := zb_some hF
  by_cases c3 : r2 = -1
  · have hF := ip c3 hF
    obtain ⟨_, rfl⟩ := zr hF
    exact ((frrN h).tr (nf_X11_findScript e2))
  · have hF := im c3 hF
    obtain ⟨r4, h4, e4, hF⟩ := zb_some hF
    by_cases c5 : r4 ≠ 0
    · have hF := ip c5 hF
      obtain ⟨g7, hF⟩ := zg hF
      obtain ⟨r6, h6, e6, hF⟩ := zb_some hF
      by_cases c8 : r6 ≠ 0
      · have hF := ip c8 hF
        obtain ⟨_, rfl⟩ := zr hF
        exact ((((frrN h).tr (nf_X11_findScript e2)).tr (nf_X11_within e4)).tr (nf_X10_faultNumber e6))
      · have hF := im c8 hF
        obtain ⟨g10, hF⟩ := zg hF
        obtain ⟨r9, h9, e9, hF⟩ := zb_some hF
        obtain ⟨_, rfl⟩ := zr hF
        exact (((((frrN h).tr (nf_X11_findScript e2)).tr (nf_X11_within e4)).tr (nf_X10_faultNumber e6)).tr (nf_X8_perform e9))
    · have hF := im c5 hF
      obtain ⟨_, rfl⟩ := zr hF
      exact (((frrN h).tr (nf_X11_findScript e2)).tr (nf_X11_within e4))
theorem nf_X11_run {l0 l1 l2 : Int} {h : zH} {r : Int} {h' : zH} (hF : F_X11_run l0 l1 l2 h = some (r, h')) : FrN h h' := n_X11_run_0 hF
theorem n_X8_told_0 {l0 l1 : Int} {h : zH} {r : Int} {h' : zH} (hF : F_X8_told_0 l0 l1 h = some (r, h')) : FrN h h' := by
  unfold F_X8_told_0 at hF
  by_cases c1 : l1 = 0
  · have hF := ip c1 hF
    obtain ⟨g3, hF⟩ := zg hF
    obtain ⟨_, rfl⟩ := zr hF
    exact (frrN h)
  · have hF := im c1 hF
    by_cases c4 : l1 = 1
    · have hF := ip c4 hF
      obtain ⟨g6, hF⟩ := zg hF
      obtain ⟨_, rfl⟩ := zr hF
      exact (frrN h)
    · have hF := im c4 hF
      by_cases c7 : l1 = 2
      · have hF := ip c7 hF
        obtain ⟨g10, hF⟩ := zg hF
        obtain ⟨g11, hF⟩ := zg hF
        obtain ⟨_, rfl⟩ := zr hF
        exact (frrN h)
      · have hF := im c7 hF
        by_cases c12 : l1 = 3
        · have hF := ip c12 hF
          obtain ⟨g14, hF⟩ := zg hF
          obtain ⟨_, rfl⟩ := zr hF
          exact (frrN h)
        · have hF := im c12 hF
          by_cases c15 : l1 = 4
          · have hF := ip c15 hF
            obtain ⟨g17, hF⟩ := zg hF
            obtain ⟨_, rfl⟩ := zr hF
            exact (frrN h)
          · have hF := im c15 hF
            by_cases c18 : l1 = 5
            · have hF := ip c18 hF
              obtain ⟨g20, hF⟩ := zg hF
              obtain ⟨_, rfl⟩ := zr hF
              exact (frrN h)
            · have hF := im c18 hF
              obtain ⟨g21, hF⟩ := zg hF
              by_cases c22 : gt h 8 l0 17 ≠ 1
              · have hF := ip c22 hF
                obtain ⟨_, rfl⟩ := zr hF
                exact (frrN h)
              · have hF := im c22 hF
                obtain ⟨_, rfl⟩ := zr hF
                exact (frrN h)
theorem nf_X8_told {l0 l1 : Int} {h : zH} {r : Int} {h' : zH} (hF : F_X8_told l0 l1 h = some (r, h')) : FrN h h' := n_X8_told_0 hF
theorem n_X11_ran_0 {l0 l1 : Int} {h : zH} {r : Int} {h' : zH} (hF : F_X11_ran_0 l0 l1 h = some (r, h')) : FrN h h' := by
  unfold F_X11_ran_0 at hF
  obtain ⟨r1, h1, e1, hF⟩ := zb_some hF
  by_cases c2 : r1 = 0
  · have hF := ip c2 hF
    obtain ⟨_, rfl⟩ := zr hF
    exact ((frrN h).tr (nf_X11_within e1))
  · have hF := im c2 hF
    obtain ⟨g3, hF⟩ := zg hF
    obtain ⟨g5, hF⟩ := zg hF
    obtain ⟨r4, h4, e4, hF⟩ := zb_some hF
    obtain ⟨_, rfl⟩ := zr hF
    exact (((frrN h).tr (nf_X11_within e1)).tr (nf_X8_told e4))
theorem nf_X11_ran {l0 l1 : Int} {h : zH} {r : Int} {h' : zH} (hF : F_X11_ran l0 l1 h = some (r, h')) : FrN h h' := n_X11_ran_0 hF
theorem n_X2_told_0 {l0 l1 l2 : Int} {h : zH} {r : Int} {h' : zH} (hF : F_X2_told_0 l0 l1 l2 h = some (r, h')) : FrN h h' := by
  unfold F_X2_told_0 at hF
  obtain ⟨g1, hF⟩ := zg hF
  obtain ⟨r2, h2, e2, hF⟩ := zb_some hF
  by_cases c3 : r2 ≠ 0
  · have hF := ip c3 hF
    by_cases c4 : l2 = 0
    · have hF := ip c4 hF
      obtain ⟨g7, hF⟩ := zg hF
      obtain ⟨g8, hF⟩ := zg hF
      obtain ⟨_, rfl⟩ := zr hF
      exact ((frrN h).tr (nf_X11_within e2))
    · have hF := im c4 hF
      by_cases c9 : l2 = 1
      · have hF := ip c9 hF
        obtain ⟨g12, hF⟩ := zg hF
        obtain ⟨g13, hF⟩ := zg hF
        obtain ⟨_, rfl⟩ := zr hF
        exact ((frrN h).tr (nf_X11_within e2))
      · have hF := im c9 hF
        by_cases c14 : l2 = 2
        · have hF := ip c14 hF
          obtain ⟨g17, hF⟩ := zg hF
          obtain ⟨g18, hF⟩ := zg hF
          obtain ⟨_, rfl⟩ := zr hF
          exact ((frrN h).tr (nf_X11_within e2))
        · have hF := im c14 hF
          by_cases c19 : l2 = 3
          · have hF := ip c19 hF
            obtain ⟨g22, hF⟩ := zg hF
            obtain ⟨g23, hF⟩ := zg hF
            obtain ⟨_, rfl⟩ := zr hF
            exact ((frrN h).tr (nf_X11_within e2))
          · have hF := im c19 hF
            by_cases c24 : l2 = 4
            · have hF := ip c24 hF
              obtain ⟨g27, hF⟩ := zg hF
              obtain ⟨g28, hF⟩ := zg hF
              obtain ⟨_, rfl⟩ := zr hF
              exact ((frrN h).tr (nf_X11_within e2))
            · have hF := im c24 hF
              obtain ⟨g29, hF⟩ := zg hF
              obtain ⟨g30, hF⟩ := zg hF
              obtain ⟨_, rfl⟩ := zr hF
              exact ((frrN h).tr (nf_X11_within e2))
  · have hF := im c3 hF
    obtain ⟨_, rfl⟩ := zr hF
    exact ((frrN h).tr (nf_X11_within e2))
theorem nf_X2_told {l0 l1 l2 : Int} {h : zH} {r : Int} {h' : zH} (hF : F_X2_told l0 l1 l2 h = some (r, h')) : FrN h h' := n_X2_told_0 hF
theorem n_X11_failure_0 {l0 l1 l2 : Int} {h : zH} {r : Int} {h' : zH} (hF : F_X11_failure_0 l0 l1 l2 h = some (r, h')) : FrN h h' := by
  unfold F_X11_failure_0 at hF
  obtain ⟨g1, hF⟩ := zg hF
  obtain ⟨g2, hF⟩ := zg hF
  obtain ⟨g3, hF⟩ := zg hF
  obtain ⟨r4, h4, e4, hF⟩ := zb_some hF
  by_cases c5 : r4 ≠ 0
  · have hF := ip c5 hF
    obtain ⟨r6, h6, e6, hF⟩ := zb_some hF
    by_cases c7 : r6 = 0
    · have hF := ip c7 hF
      obtain ⟨_, rfl⟩ := zr hF
      exact (((frrN h).tr (nf_X11_within e4)).tr (nf_X11_within e6))
    · have hF := im c7 hF
      obtain ⟨g8, hF⟩ := zg hF
      obtain ⟨g10, hF⟩ := zg hF
      obtain ⟨r9, h9, e9, hF⟩ := zb_some hF
      obtain ⟨_, rfl⟩ := zr hF
      exact ((((frrN h).tr (nf_X11_within e4)).tr (nf_X11_within e6)).tr (nf_X2_told e9))
  · have hF := im c5 hF
    obtain ⟨_, rfl⟩ := zr hF
    exact ((frrN h).tr (nf_X11_within e4))
theorem nf_X11_failure {l0 l1 l2 : Int} {h : zH} {r : Int} {h' : zH} (hF : F_X11_failure l0 l1 l2 h = some (r, h')) : FrN h h' := n_X11_failure_0 hF
theorem n_X11_leaks_0 {l0 : Int} {h : zH} {r : Int} {h' : zH} (hF : F_X11_leaks_0 l0 h = some (r, h')) : FrN h h' := by
  unfold F_X11_leaks_0 at hF
  obtain ⟨g1, hF⟩ := zg hF
  obtain ⟨g2, hF⟩ := zg hF
  obtain ⟨_, rfl⟩ := zr hF
  exact (frrN h)
theorem nf_X11_leaks {l0 : Int} {h : zH} {r : Int} {h' : zH} (hF : F_X11_leaks l0 h = some (r, h')) : FrN h h' := n_X11_leaks_0 hF
theorem n_X3_findHeld_0 {l0 l1 : Int} {h : zH} {r : Int} {h' : zH} (hF : F_X3_findHeld_0 l0 l1 h = some (r, h')) : FrN h h' := by
  unfold F_X3_findHeld_0 at hF
  obtain ⟨g1, hF⟩ := zg hF
  obtain ⟨r2, h2, e2, hF⟩ := zb_some hF
  by_cases c3 : r2 = 0
  · have hF := ip c3 hF
    obtain ⟨_, rfl⟩ := zr hF
    exact ((frrN h).tr (nf_X11_within e2))
  · have hF := im c3 hF
    obtain ⟨g4, hF⟩ := zg hF
    obtain ⟨g5, hF⟩ := zg hF
    obtain ⟨r6, h6, e6, hF⟩ := zb_some hF
    obtain ⟨_, rfl⟩ := zr hF
    exact (((frrN h).tr (nf_X11_within e2)).tr (nf_X3_find e6))
theorem nf_X3_findHeld {l0 l1 : Int} {h : zH} {r : Int} {h' : zH} (hF : F_X3_findHeld l0 l1 h = some (r, h')) : FrN h h' := n_X3_findHeld_0 hF
theorem n_X11_leak_0 {l0 l1 l2 : Int} {h : zH} {r : Int} {h' : zH} (hF : F_X11_leak_0 l0 l1 l2 h = some (r, h')) : FrN h h' := by
  unfold F_X11_leak_0 at hF
  obtain ⟨g1, hF⟩ := zg hF
  obtain ⟨g3, hF⟩ := zg hF
  obtain ⟨r2, h2, e2, hF⟩ := zb_some hF
  by_cases c4 : r2 ≠ -1
  · have hF := ip c4 hF
    by_cases c5 : l2 = 0
    · have hF := ip c5 hF
      obtain ⟨g7, hF⟩ := zg hF
      obtain ⟨_, rfl⟩ := zr hF
      exact ((frrN h).tr (nf_X3_findHeld e2))
    · have hF := im c5 hF
      by_cases c8 : l2 = 1
      · have hF := ip c8 hF
        obtain ⟨g10, hF⟩ := zg hF
        obtain ⟨_, rfl⟩ := zr hF
        exact ((frrN h).tr (nf_X3_findHeld e2))
      · have hF := im c8 hF
        by_cases c11 : l2 = 2
        · have hF := ip c11 hF
          obtain ⟨g13, hF⟩ := zg hF
          obtain ⟨_, rfl⟩ := zr hF
          exact ((frrN h).tr (nf_X3_findHeld e2))
        · have hF := im c11 hF
          obtain ⟨_, rfl⟩ := zr hF
          exact ((frrN h).tr (nf_X3_findHeld e2))
  · have hF := im c4 hF
    obtain ⟨_, rfl⟩ := zr hF
    exact ((frrN h).tr (nf_X3_findHeld e2))
theorem nf_X11_leak {l0 l1 l2 : Int} {h : zH} {r : Int} {h' : zH} (hF : F_X11_leak l0 l1 l2 h = some (r, h')) : FrN h h' := n_X11_leak_0 hF
theorem n_X11_trace_0 {l0 l1 l2 l3 : Int} {h : zH} {r : Int} {h' : zH} (hF : F_X11_trace_0 l0 l1 l2 l3 h = some (r, h')) : FrN h h' := by
  unfold F_X11_trace_0 at hF
  obtain ⟨g1, hF⟩ := zg hF
  obtain ⟨g3, hF⟩ := zg hF
  obtain ⟨r2, h2, e2, hF⟩ := zb_some hF
  by_cases c4 : r2 = -1
  · have hF := ip c4 hF
    obtain ⟨_, rfl⟩ := zr hF
    exact ((frrN h).tr (nf_X3_findHeld e2))
  · have hF := im c4 hF
    obtain ⟨g5, hF⟩ := zg hF
    obtain ⟨r6, h6, e6, hF⟩ := zb_some hF
    by_cases c7 : r6 ≠ 0
    · have hF := ip c7 hF
      obtain ⟨r8, h8, e8, hF⟩ := zb_some hF
      by_cases c9 : r8 ≠ 0
      · have hF := ip c9 hF
        by_cases c10 : l3 ≠ 0
        · have hF := ip c10 hF
          obtain ⟨g11, hF⟩ := zg hF
          obtain ⟨g12, hF⟩ := zg hF
          obtain ⟨_, rfl⟩ := zr hF
          exact ((((frrN h).tr (nf_X3_findHeld e2)).tr (nf_X11_within e6)).tr (nf_X11_within e8))
        · have hF := im c10 hF
          obtain ⟨g13, hF⟩ := zg hF
          obtain ⟨g14, hF⟩ := zg hF
          obtain ⟨_, rfl⟩ := zr hF
          exact ((((frrN h).tr (nf_X3_findHeld e2)).tr (nf_X11_within e6)).tr (nf_X11_within e8))
      · have hF := im c9 hF
        obtain ⟨_, rfl⟩ := zr hF
        exact ((((frrN h).tr (nf_X3_findHeld e2)).tr (nf_X11_within e6)).tr (nf_X11_within e8))
    · have hF := im c7 hF
      obtain ⟨_, rfl⟩ := zr hF
      exact (((frrN h).tr (nf_X3_findHeld e2)).tr (nf_X11_within e6))
theorem nf_X11_trace {l0 l1 l2 l3 : Int} {h : zH} {r : Int} {h' : zH} (hF : F_X11_trace l0 l1 l2 l3 h = some (r, h')) : FrN h h' := n_X11_trace_0 hF
theorem n_X11_giveBack_0 {l0 l1 : Int} {h : zH} {r : Int} {h' : zH} (hF : F_X11_giveBack_0 l0 l1 h = some (r, h')) : FrN h h' := by
  unfold F_X11_giveBack_0 at hF
  obtain ⟨g1, hF⟩ := zg hF
  obtain ⟨g3, hF⟩ := zg hF
  obtain ⟨r2, h2, e2, hF⟩ := zb_some hF
  by_cases c4 : r2 ≠ -1
  · have hF := ip c4 hF
    obtain ⟨g6, hF⟩ := zg hF
    obtain ⟨r5, h5, e5, hF⟩ := zb_some hF
    by_cases c7 : r5 = 0
    · have hF := ip c7 hF
      obtain ⟨_, rfl⟩ := zr hF
      exact (((frrN h).tr (nf_X3_findHeld e2)).tr (nf_X3_takeBack e5))
    · have hF := im c7 hF
      obtain ⟨_, rfl⟩ := zr hF
      exact (((frrN h).tr (nf_X3_findHeld e2)).tr (nf_X3_takeBack e5))
  · have hF := im c4 hF
    obtain ⟨_, rfl⟩ := zr hF
    exact ((frrN h).tr (nf_X3_findHeld e2))
theorem nf_X11_giveBack {l0 l1 : Int} {h : zH} {r : Int} {h' : zH} (hF : F_X11_giveBack l0 l1 h = some (r, h')) : FrN h h' := n_X11_giveBack_0 hF
theorem n_X3_deposit_5b {ag5 : Int → Int → Int → Int → zH → zO} (hag5 : ∀ (l0 l1 l2 l4 : Int) (h : zH) (r : Int) (h' : zH), ag5 l0 l1 l2 l4 h = some (r, h') → FrN h h') {l0 l1 l2 l4 : Int} {h : zH} {r : Int} {h' : zH} (hF : F_X3_deposit_5b ag5 l0 l1 l2 l4 h = some (r, h')) : FrN h h' := by
  unfold F_X3_deposit_5b at hF
  obtain ⟨g1, hF⟩ := zg hF
  by_cases c2 : gt h 3 l0 1 ≤ l4
  · have hF := ip c2 hF
    obtain ⟨_, rfl⟩ := zr hF
    exact (frrN h)
  · have hF := im c2 hF
    obtain ⟨g3, hF⟩ := zg hF
    obtain ⟨g4, hF⟩ := zg hF
    by_cases c5 : gt h 27 (gt h 3 l0 0) l4 = -1
    · have hF := ip c5 hF
      exact (frrN h).tr (hag5 _ _ _ _ _ _ _ hF)
    · have hF := im c5 hF
      obtain ⟨g6, hF⟩ := zg hF
      by_cases c7 : gt h 6 (gt h 27 (gt h 3 l0 0) l4) 3 ≠ 1
      · have hF := ip c7 hF
        exact (frrN h).tr (hag5 _ _ _ _ _ _ _ hF)
      · have hF := im c7 hF
        by_cases c8 : gt h 6 (gt h 27 (gt h 3 l0 0) l4) 4 ≠ l1
        · have hF := ip c8 hF
          exact (frrN h).tr (hag5 _ _ _ _ _ _ _ hF)
        · have hF := im c8 hF
          exact (frrN h).tr (hag5 _ _ _ _ _ _ _ hF)
theorem n_X3_deposit_5 : ∀ (n : Nat) (l0 l1 l2 l4 : Int) (h : zH) (r : Int) (h' : zH), F_X3_deposit_5 n l0 l1 l2 l4 h = some (r, h') → FrN h h'
  | 0, _, _, _, _, _, _, _, hF => by cases hF
  | n + 1, _, _, _, _, _, _, _, hF => n_X3_deposit_5b (n_X3_deposit_5 n) hF
theorem n_X3_deposit_0 {l0 l1 : Int} {h : zH} {r : Int} {h' : zH} (hF : F_X3_deposit_0 l0 l1 h = some (r, h')) : FrN h h' := by
  unfold F_X3_deposit_0 at hF
  exact (frrN h).tr (n_X3_deposit_5 _ _ _ _ _ _ _ _ hF)
theorem nf_X3_deposit {l0 l1 : Int} {h : zH} {r : Int} {h' : zH} (hF : F_X3_deposit l0 l1 h = some (r, h')) : FrN h h' := n_X3_deposit_0 hF
theorem n_X11_cents_0 {l0 l1 l2 : Int} {h : zH} {r : Int} {h' : zH} (hF : F_X11_cents_0 l0 l1 l2 h = some (r, h')) : FrN h h' := by
  unfold F_X11_cents_0 at hF
  obtain ⟨r1, h1, e1, hF⟩ := zb_some hF
  by_cases c2 : r1 ≠ 0
  · have hF := ip c2 hF
    obtain ⟨r3, h3, e3, hF⟩ := zb_some hF
    by_cases c4 : r3 ≠ 0
    · have hF := ip c4 hF
      by_cases c5 : l2 ≠ 0
      · have hF := ip c5 hF
        obtain ⟨g6, hF⟩ := zg hF
        obtain ⟨g7, hF⟩ := zg hF
        obtain ⟨g8, hF⟩ := zg hF
        obtain ⟨g9, hF⟩ := zg hF
        obtain ⟨_, rfl⟩ := zr hF
        exact (((frrN h).tr (nf_X11_within e1)).tr (nf_X11_within e3))
      · have hF := im c5 hF
        obtain ⟨g10, hF⟩ := zg hF
        obtain ⟨g12, hF⟩ := zg hF
        obtain ⟨r11, h11, e11, hF⟩ := zb_some hF
        obtain ⟨_, rfl⟩ := zr hF
        exact ((((frrN h).tr (nf_X11_within e1)).tr (nf_X11_within e3)).tr (nf_X3_deposit e11))
    · have hF := im c4 hF
      obtain ⟨_, rfl⟩ := zr hF
      exact (((frrN h).tr (nf_X11_within e1)).tr (nf_X11_within e3))
  · have hF := im c2 hF
    obtain ⟨_, rfl⟩ := zr hF
    exact ((frrN h).tr (nf_X11_within e1))
theorem nf_X11_cents {l0 l1 l2 : Int} {h : zH} {r : Int} {h' : zH} (hF : F_X11_cents l0 l1 l2 h = some (r, h')) : FrN h h' := n_X11_cents_0 hF
theorem n_X5_told_0 {l0 l1 l2 : Int} {h : zH} {r : Int} {h' : zH} (hF : F_X5_told_0 l0 l1 l2 h = some (r, h')) : FrN h h' := by
  unfold F_X5_told_0 at hF
  obtain ⟨g1, hF⟩ := zg hF
  obtain ⟨r2, h2, e2, hF⟩ := zb_some hF
  by_cases c3 : r2 ≠ 0
  · have hF := ip c3 hF
    by_cases c4 : gt h2 5 l0 4 < l1
    · have hF := ip c4 hF
      by_cases c5 : l2 = 0
      · have hF := ip c5 hF
        obtain ⟨g8, hF⟩ := zg hF
        obtain ⟨g9, hF⟩ := zg hF
        obtain ⟨_, rfl⟩ := zr hF
        exact ((frrN h).tr (nf_X11_within e2))
      · have hF := im c5 hF
        by_cases c10 : l2 = 1
        · have hF := ip c10 hF
          obtain ⟨g13, hF⟩ := zg hF
          obtain ⟨g14, hF⟩ := zg hF
          obtain ⟨_, rfl⟩ := zr hF
          exact ((frrN h).tr (nf_X11_within e2))
        · have hF := im c10 hF
          obtain ⟨g15, hF⟩ := zg hF
          obtain ⟨g16, hF⟩ := zg hF
          obtain ⟨_, rfl⟩ := zr hF
          exact ((frrN h).tr (nf_X11_within e2))
    · have hF := im c4 hF
      by_cases c17 : l2 = 0
      · have hF := ip c17 hF
        obtain ⟨g20, hF⟩ := zg hF
        obtain ⟨g21, hF⟩ := zg hF
        obtain ⟨_, rfl⟩ := zr hF
        exact ((frrN h).tr (nf_X11_within e2))
      · have hF := im c17 hF
        by_cases c22 : l2 = 1
        · have hF := ip c22 hF
          obtain ⟨g25, hF⟩ := zg hF
          obtain ⟨g26, hF⟩ := zg hF
          obtain ⟨_, rfl⟩ := zr hF
          exact ((frrN h).tr (nf_X11_within e2))
        · have hF := im c22 hF
          obtain ⟨g27, hF⟩ := zg hF
          obtain ⟨g28, hF⟩ := zg hF
          obtain ⟨_, rfl⟩ := zr hF
          exact ((frrN h).tr (nf_X11_within e2))
  · have hF := im c3 hF
    obtain ⟨_, rfl⟩ := zr hF
    exact ((frrN h).tr (nf_X11_within e2))
theorem nf_X5_told {l0 l1 l2 : Int} {h : zH} {r : Int} {h' : zH} (hF : F_X5_told l0 l1 l2 h = some (r, h')) : FrN h h' := n_X5_told_0 hF
theorem n_X11_log_0 {l0 l1 l2 : Int} {h : zH} {r : Int} {h' : zH} (hF : F_X11_log_0 l0 l1 l2 h = some (r, h')) : FrN h h' := by
  unfold F_X11_log_0 at hF
  obtain ⟨r1, h1, e1, hF⟩ := zb_some hF
  by_cases c2 : r1 = 0
  · have hF := ip c2 hF
    obtain ⟨_, rfl⟩ := zr hF
    exact ((frrN h).tr (nf_X11_within e1))
  · have hF := im c2 hF
    obtain ⟨g3, hF⟩ := zg hF
    obtain ⟨g4, hF⟩ := zg hF
    obtain ⟨g6, hF⟩ := zg hF
    obtain ⟨r5, h5, e5, hF⟩ := zb_some hF
    obtain ⟨_, rfl⟩ := zr hF
    exact (((frrN h).tr (nf_X11_within e1)).tr (nf_X5_told e5))
theorem nf_X11_log {l0 l1 l2 : Int} {h : zH} {r : Int} {h' : zH} (hF : F_X11_log l0 l1 l2 h = some (r, h')) : FrN h h' := n_X11_log_0 hF
theorem n_X12_in_0 {l0 l2 l4 : Int} {h : zH} {r : Int} {h' : zH} (hF : F_X12_in_0 l0 l2 l4 h = some (r, h')) : FrN h h' := by
  unfold F_X12_in_0 at hF
  by_cases c1 : lc l0 l2 < 0
  · have hF := ip c1 hF
    obtain ⟨_, rfl⟩ := zr hF
    exact (frrN h)
  · have hF := im c1 hF
    by_cases c2 : 0 < lc l0 l4
    · have hF := ip c2 hF
      obtain ⟨_, rfl⟩ := zr hF
      exact (frrN h)
    · have hF := im c2 hF
      obtain ⟨_, rfl⟩ := zr hF
      exact (frrN h)
theorem nf_X12_in {l0 l2 l4 : Int} {h : zH} {r : Int} {h' : zH} (hF : F_X12_in l0 l2 l4 h = some (r, h')) : FrN h h' := n_X12_in_0 hF
theorem n_X12_part_0 {l0 l1 l2 : Int} {h : zH} {r : Int} {h' : zH} (hF : F_X12_part_0 l0 l1 l2 h = some (r, h')) : FrN h h' := by
  unfold F_X12_part_0 at hF
  obtain ⟨r1, h1, e1, hF⟩ := zb_some hF
  by_cases c2 : r1 = 0
  · have hF := ip c2 hF
    obtain ⟨_, rfl⟩ := zr hF
    exact ((frrN h).tr (nf_X12_in e1))
  · have hF := im c2 hF
    obtain ⟨r3, h3, e3, hF⟩ := zb_some hF
    by_cases c4 : r3 ≠ 0
    · have hF := ip c4 hF
      obtain ⟨g5, hF⟩ := zg hF
      by_cases c6 : gt h3 12 l0 0 ≠ 60
      · have hF := ip c6 hF
        obtain ⟨g7, hF⟩ := zg hF
        obtain ⟨g8, hF⟩ := zg hF
        obtain ⟨g9, hF⟩ := zg hF
        obtain ⟨g10, hF⟩ := zg hF
        have hF := zl_e hF
        have fk11 : FrN h (pt (pt h3 50 (gt h3 12 l0 1) (gt h3 12 l0 0) l1) 51 (gt (pt h3 50 (gt h3 12 l0 1) (gt h3 12 l0 0) l1) 12 l0 2) (gt (pt h3 50 (gt h3 12 l0 1) (gt h3 12 l0 0) l1) 12 l0 0) l2) := (frpN (frpN (((frrN h).tr (nf_X12_in e1)).tr (nf_X12_in e3))))
        generalize pt (pt h3 50 (gt h3 12 l0 1) (gt h3 12 l0 0) l1) 51 (gt (pt h3 50 (gt h3 12 l0 1) (gt h3 12 l0 0) l1) 12 l0 2) (gt (pt h3 50 (gt h3 12 l0 1) (gt h3 12 l0 0) l1) 12 l0 0) l2 = k11 at hF fk11
        obtain ⟨g12, hF⟩ := zg hF
        obtain ⟨g13, hF⟩ := zg hF
        have hF := zl_e hF
        have fk14 : FrN h (pt (pt k11 52 (gt k11 12 l0 3) (gt k11 12 l0 0) 0) 12 l0 0 (wI ((gt (pt k11 52 (gt k11 12 l0 3) (gt k11 12 l0 0) 0) 12 l0 0) + 1))) := (frpN (frpN fk11))
        generalize pt (pt k11 52 (gt k11 12 l0 3) (gt k11 12 l0 0) 0) 12 l0 0 (wI ((gt (pt k11 52 (gt k11 12 l0 3) (gt k11 12 l0 0) 0) 12 l0 0) + 1)) = k14 at hF fk14
        obtain ⟨_, rfl⟩ := zr hF
        exact fk14
      · have hF := im c6 hF
        obtain ⟨_, rfl⟩ := zr hF
        exact (((frrN h).tr (nf_X12_in e1)).tr (nf_X12_in e3))
    · have hF := im c4 hF
      obtain ⟨_, rfl⟩ := zr hF
      exact (((frrN h).tr (nf_X12_in e1)).tr (nf_X12_in e3))
theorem nf_X12_part {l0 l1 l2 : Int} {h : zH} {r : Int} {h' : zH} (hF : F_X12_part l0 l1 l2 h = some (r, h')) : FrN h h' := n_X12_part_0 hF
theorem n_X12_noPart_0 {l0 l1 : Int} {h : zH} {r : Int} {h' : zH} (hF : F_X12_noPart_0 l0 l1 h = some (r, h')) : FrN h h' := by
  unfold F_X12_noPart_0 at hF
  obtain ⟨g1, hF⟩ := zg hF
  obtain ⟨r2, h2, e2, hF⟩ := zb_some hF
  by_cases c3 : r2 ≠ 0
  · have hF := ip c3 hF
    obtain ⟨_, rfl⟩ := zr hF
    exact ((frrN h).tr (nf_X12_in e2))
  · have hF := im c3 hF
    obtain ⟨_, rfl⟩ := zr hF
    exact ((frrN h).tr (nf_X12_in e2))
theorem nf_X12_noPart {l0 l1 : Int} {h : zH} {r : Int} {h' : zH} (hF : F_X12_noPart l0 l1 h = some (r, h')) : FrN h h' := n_X12_noPart_0 hF
theorem n_X12_state_0 {l0 l1 : Int} {h : zH} {r : Int} {h' : zH} (hF : F_X12_state_0 l0 l1 h = some (r, h')) : FrN h h' := by
  unfold F_X12_state_0 at hF
  obtain ⟨g2, hF⟩ := zg hF
  obtain ⟨r1, h1, e1, hF⟩ := zb_some hF
  by_cases c3 : r1 = 0
  · have hF := ip c3 hF
    obtain ⟨g4, hF⟩ := zg hF
    obtain ⟨g5, hF⟩ := zg hF
    obtain ⟨_, rfl⟩ := zr hF
    exact ((frrN h).tr (nf_X12_noPart e1))
  · have hF := im c3 hF
    obtain ⟨_, rfl⟩ := zr hF
    exact ((frrN h).tr (nf_X12_noPart e1))
theorem nf_X12_state {l0 l1 : Int} {h : zH} {r : Int} {h' : zH} (hF : F_X12_state l0 l1 h = some (r, h')) : FrN h h' := n_X12_state_0 hF
theorem n_X12_clean_59b {ag59 : Int → Int → Int → zH → zO} (hag59 : ∀ (l0 l2 l3 : Int) (h : zH) (r : Int) (h' : zH), ag59 l0 l2 l3 h = some (r, h') → FrN h h') {l0 l2 l3 : Int} {h : zH} {r : Int} {h' : zH} (hF : F_X12_clean_59b ag59 l0 l2 l3 h = some (r, h')) : FrN h h' := by
  unfold F_X12_clean_59b at hF
  obtain ⟨g1, hF⟩ := zg hF
  by_cases c2 : gt h 12 l0 4 ≤ l3
  · have hF := ip c2 hF
    obtain ⟨_, rfl⟩ := zr hF
    exact (frpN (frrN h))
  · have hF := im c2 hF
    obtain ⟨g3, hF⟩ := zg hF
    obtain ⟨g4, hF⟩ := zg hF
    obtain ⟨g5, hF⟩ := zg hF
    exact (frpN (frrN h)).tr (hag59 _ _ _ _ _ _ hF)
theorem n_X12_clean_59 : ∀ (n : Nat) (l0 l2 l3 : Int) (h : zH) (r : Int) (h' : zH), F_X12_clean_59 n l0 l2 l3 h = some (r, h') → FrN h h'
  | 0, _, _, _, _, _, _, hF => by cases hF
  | n + 1, _, _, _, _, _, _, hF => n_X12_clean_59b (n_X12_clean_59 n) hF
theorem n_X12_clean_34b {ag34 : Int → Int → Int → zH → zO} (hag34 : ∀ (l0 l2 l3 : Int) (h : zH) (r : Int) (h' : zH), ag34 l0 l2 l3 h = some (r, h') → FrN h h') {l0 l2 l3 : Int} {h : zH} {r : Int} {h' : zH} (hF : F_X12_clean_34b ag34 l0 l2 l3 h = some (r, h')) : FrN h h' := by
  unfold F_X12_clean_34b at hF
  by_cases c1 : l2 ≤ l3
  · have hF := ip c1 hF
    exact (frrN h).tr (n_X12_clean_59 _ _ _ _ _ _ _ hF)
  · have hF := im c1 hF
    obtain ⟨g2, hF⟩ := zg hF
    obtain ⟨g3, hF⟩ := zg hF
    obtain ⟨g4, hF⟩ := zg hF
    obtain ⟨g5, hF⟩ := zg hF
    obtain ⟨g6, hF⟩ := zg hF
    exact (frpN (frrN h)).tr (hag34 _ _ _ _ _ _ hF)
theorem n_X12_clean_34 : ∀ (n : Nat) (l0 l2 l3 : Int) (h : zH) (r : Int) (h' : zH), F_X12_clean_34 n l0 l2 l3 h = some (r, h') → FrN h h'
  | 0, _, _, _, _, _, _, hF => by cases hF
  | n + 1, _, _, _, _, _, _, hF => n_X12_clean_34b (n_X12_clean_34 n) hF
theorem n_X12_clean_0 {l0 l1 : Int} {h : zH} {r : Int} {h' : zH} (hF : F_X12_clean_0 l0 l1 h = some (r, h')) : FrN h h' := by
  unfold F_X12_clean_0 at hF
  obtain ⟨r1, h1, e1, hF⟩ := zb_some hF
  by_cases c2 : r1 ≠ 0
  · have hF := ip c2 hF
    obtain ⟨g3, hF⟩ := zg hF
    by_cases c4 : gt h1 12 l0 4 ≤ l1
    · have hF := ip c4 hF
      exact ((frrN h).tr (nf_X12_in e1)).tr (n_X12_clean_34 _ _ _ _ _ _ _ hF)
    · have hF := im c4 hF
      exact ((frrN h).tr (nf_X12_in e1)).tr (n_X12_clean_34 _ _ _ _ _ _ _ hF)
  · have hF := im c2 hF
    obtain ⟨_, rfl⟩ := zr hF
    exact ((frrN h).tr (nf_X12_in e1))
theorem nf_X12_clean {l0 l1 : Int} {h : zH} {r : Int} {h' : zH} (hF : F_X12_clean l0 l1 h = some (r, h')) : FrN h h' := n_X12_clean_0 hF
theorem n_X12_cleaning_0 {l0 l1 : Int} {h : zH} {r : Int} {h' : zH} (hF : F_X12_cleaning_0 l0 l1 h = some (r, h')) : FrN h h' := by
  unfold F_X12_cleaning_0 at hF
  obtain ⟨g1, hF⟩ := zg hF
  obtain ⟨r2, h2, e2, hF⟩ := zb_some hF
  by_cases c3 : r2 = 0
  · have hF := ip c3 hF
    obtain ⟨_, rfl⟩ := zr hF
    exact ((frrN h).tr (nf_X12_in e2))
  · have hF := im c3 hF
    obtain ⟨g4, hF⟩ := zg hF
    obtain ⟨g5, hF⟩ := zg hF
    obtain ⟨_, rfl⟩ := zr hF
    exact ((frrN h).tr (nf_X12_in e2))
theorem nf_X12_cleaning {l0 l1 : Int} {h : zH} {r : Int} {h' : zH} (hF : F_X12_cleaning l0 l1 h = some (r, h')) : FrN h h' := n_X12_cleaning_0 hF
theorem n_X12_plan_0 {l0 l1 l2 l3 : Int} {h : zH} {r : Int} {h' : zH} (hF : F_X12_plan_0 l0 l1 l2 l3 h = some (r, h')) : FrN h h' := by
  unfold F_X12_plan_0 at hF
  obtain ⟨g2, hF⟩ := zg hF
  obtain ⟨r1, h1, e1, hF⟩ := zb_some hF
  by_cases c3 : r1 = 0
  · have hF := ip c3 hF
    obtain ⟨r4, h4, e4, hF⟩ := zb_some hF
    by_cases c5 : r4 = 0
    · have hF := ip c5 hF
      obtain ⟨_, rfl⟩ := zr hF
      exact (((frrN h).tr (nf_X12_noPart e1)).tr (nf_X12_in e4))
    · have hF := im c5 hF
      obtain ⟨r6, h6, e6, hF⟩ := zb_some hF
      by_cases c7 : r6 ≠ 0
      · have hF := ip c7 hF
        by_cases c8 : gt h6 12 l0 6 ≠ 30
        · have hF := ip c8 hF
          obtain ⟨g9, hF⟩ := zg hF
          obtain ⟨g10, hF⟩ := zg hF
          obtain ⟨g11, hF⟩ := zg hF
          obtain ⟨g12, hF⟩ := zg hF
          have hF := zl_e hF
          have fk13 : FrN h (pt (pt h6 54 (gt h6 12 l0 7) (gt h6 12 l0 6) l1) 55 (gt (pt h6 54 (gt h6 12 l0 7) (gt h6 12 l0 6) l1) 12 l0 8) (gt (pt h6 54 (gt h6 12 l0 7) (gt h6 12 l0 6) l1) 12 l0 6) l2) := (frpN (frpN ((((frrN h).tr (nf_X12_noPart e1)).tr (nf_X12_in e4)).tr (nf_X12_in e6))))
          generalize pt (pt h6 54 (gt h6 12 l0 7) (gt h6 12 l0 6) l1) 55 (gt (pt h6 54 (gt h6 12 l0 7) (gt h6 12 l0 6) l1) 12 l0 8) (gt (pt h6 54 (gt h6 12 l0 7) (gt h6 12 l0 6) l1) 12 l0 6) l2 = k13 at hF fk13
          obtain ⟨g14, hF⟩ := zg hF
          obtain ⟨g15, hF⟩ := zg hF
          obtain ⟨g16, hF⟩ := zg hF
          obtain ⟨g17, hF⟩ := zg hF
          have hF := zl_e hF
          have fk18 : FrN h (pt (pt k13 56 (gt k13 12 l0 9) (gt k13 12 l0 6) l3) 57 (gt (pt k13 56 (gt k13 12 l0 9) (gt k13 12 l0 6) l3) 12 l0 10) (gt (pt k13 56 (gt k13 12 l0 9) (gt k13 12 l0 6) l3) 12 l0 6) 0) := (frpN (frpN fk13))
          generalize pt (pt k13 56 (gt k13 12 l0 9) (gt k13 12 l0 6) l3) 57 (gt (pt k13 56 (gt k13 12 l0 9) (gt k13 12 l0 6) l3) 12 l0 10) (gt (pt k13 56 (gt k13 12 l0 9) (gt k13 12 l0 6) l3) 12 l0 6) 0 = k18 at hF fk18
          obtain ⟨_, rfl⟩ := zr hF
          exact (frpN fk18)
        · have hF := im c8 hF
          obtain ⟨_, rfl⟩ := zr hF
          exact ((((frrN h).tr (nf_X12_noPart e1)).tr (nf_X12_in e4)).tr (nf_X12_in e6))
      · have hF := im c7 hF
        obtain ⟨_, rfl⟩ := zr hF
        exact ((((frrN h).tr (nf_X12_noPart e1)).tr (nf_X12_in e4)).tr (nf_X12_in e6))
  · have hF := im c3 hF
    obtain ⟨_, rfl⟩ := zr hF
    exact ((frrN h).tr (nf_X12_noPart e1))
theorem nf_X12_plan {l0 l1 l2 l3 : Int} {h : zH} {r : Int} {h' : zH} (hF : F_X12_plan l0 l1 l2 l3 h = some (r, h')) : FrN h h' := n_X12_plan_0 hF
theorem n_X12_plans_0 {l0 l1 : Int} {h : zH} {r : Int} {h' : zH} (hF : F_X12_plans_0 l0 l1 h = some (r, h')) : FrN h h' := by
  unfold F_X12_plans_0 at hF
  obtain ⟨g1, hF⟩ := zg hF
  by_cases c2 : l1 = 0
  · have hF := ip c2 hF
    obtain ⟨_, rfl⟩ := zr hF
    exact (frpN (frrN h))
  · have hF := im c2 hF
    obtain ⟨_, rfl⟩ := zr hF
    exact (frpN (frrN h))
theorem nf_X12_plans {l0 l1 : Int} {h : zH} {r : Int} {h' : zH} (hF : F_X12_plans l0 l1 h = some (r, h')) : FrN h h' := n_X12_plans_0 hF
theorem n_X12_act_0 {l0 : Int} {h : zH} {r : Int} {h' : zH} (hF : F_X12_act_0 l0 h = some (r, h')) : FrN h h' := by
  unfold F_X12_act_0 at hF
  obtain ⟨g1, hF⟩ := zg hF
  by_cases c2 : gt h 12 l0 16 ≠ 12
  · have hF := ip c2 hF
    obtain ⟨g3, hF⟩ := zg hF
    obtain ⟨g4, hF⟩ := zg hF
    have hF := zl_e hF
    have fk5 : FrN h (pt (pt h 62 (gt h 12 l0 17) (gt h 12 l0 16) 0) 12 l0 16 (wI ((gt (pt h 62 (gt h 12 l0 17) (gt h 12 l0 16) 0) 12 l0 16) + 1))) := (frpN (frpN (frrN h)))
    generalize pt (pt h 62 (gt h 12 l0 17) (gt h 12 l0 16) 0) 12 l0 16 (wI ((gt (pt h 62 (gt h 12 l0 17) (gt h 12 l0 16) 0) 12 l0 16) + 1)) = k5 at hF fk5
    obtain ⟨_, rfl⟩ := zr hF
    exact fk5
  · have hF := im c2 hF
    obtain ⟨_, rfl⟩ := zr hF
    exact (frrN h)
theorem nf_X12_act {l0 : Int} {h : zH} {r : Int} {h' : zH} (hF : F_X12_act l0 h = some (r, h')) : FrN h h' := n_X12_act_0 hF
theorem n_X12_noAct_0 {l0 l1 : Int} {h : zH} {r : Int} {h' : zH} (hF : F_X12_noAct_0 l0 l1 h = some (r, h')) : FrN h h' := by
  unfold F_X12_noAct_0 at hF
  obtain ⟨g1, hF⟩ := zg hF
  obtain ⟨r2, h2, e2, hF⟩ := zb_some hF
  by_cases c3 : r2 ≠ 0
  · have hF := ip c3 hF
    obtain ⟨_, rfl⟩ := zr hF
    exact ((frrN h).tr (nf_X12_in e2))
  · have hF := im c3 hF
    obtain ⟨_, rfl⟩ := zr hF
    exact ((frrN h).tr (nf_X12_in e2))
theorem nf_X12_noAct {l0 l1 : Int} {h : zH} {r : Int} {h' : zH} (hF : F_X12_noAct l0 l1 h = some (r, h')) : FrN h h' := n_X12_noAct_0 hF
theorem n_X12_line_0 {l0 l1 l2 l3 l4 : Int} {h : zH} {r : Int} {h' : zH} (hF : F_X12_line_0 l0 l1 l2 l3 l4 h = some (r, h')) : FrN h h' := by
  unfold F_X12_line_0 at hF
  obtain ⟨g2, hF⟩ := zg hF
  obtain ⟨r1, h1, e1, hF⟩ := zb_some hF
  by_cases c3 : r1 = 0
  · have hF := ip c3 hF
    obtain ⟨g4, hF⟩ := zg hF
    obtain ⟨g5, hF⟩ := zg hF
    by_cases c6 : gt h1 62 (gt h1 12 l0 17) l1 ≠ 40
    · have hF := ip c6 hF
      obtain ⟨g7, hF⟩ := zg hF
      obtain ⟨g8, hF⟩ := zg hF
      obtain ⟨g9, hF⟩ := zg hF
      have hF := zl_e hF
      have fk10 : FrN h (pt (pt h1 63 (gt h1 12 l0 18) (wI ((wI (40 * l1)) + (gt h1 62 (gt h1 12 l0 17) l1))) l2) 64 (gt (pt h1 63 (gt h1 12 l0 18) (wI ((wI (40 * l1)) + (gt h1 62 (gt h1 12 l0 17) l1))) l2) 12 l0 19) (wI ((wI (40 * l1)) + (gt h1 62 (gt h1 12 l0 17) l1))) l3) := (frpN (frpN ((frrN h).tr (nf_X12_noAct e1))))
      generalize pt (pt h1 63 (gt h1 12 l0 18) (wI ((wI (40 * l1)) + (gt h1 62 (gt h1 12 l0 17) l1))) l2) 64 (gt (pt h1 63 (gt h1 12 l0 18) (wI ((wI (40 * l1)) + (gt h1 62 (gt h1 12 l0 17) l1))) l2) 12 l0 19) (wI ((wI (40 * l1)) + (gt h1 62 (gt h1 12 l0 17) l1))) l3 = k10 at hF fk10
      obtain ⟨g11, hF⟩ := zg hF
      obtain ⟨g12, hF⟩ := zg hF
      have hF := zl_e hF
      have fk13 : FrN h (pt (pt k10 65 (gt k10 12 l0 20) (wI ((wI (40 * l1)) + (gt h1 62 (gt h1 12 l0 17) l1))) l4) 62 (gt (pt k10 65 (gt k10 12 l0 20) (wI ((wI (40 * l1)) + (gt h1 62 (gt h1 12 l0 17) l1))) l4) 12 l0 17) l1 (wI ((gt (pt k10 65 (gt k10 12 l0 20) (wI ((wI (40 * l1)) + (gt h1 62 (gt h1 12 l0 17) l1))) l4) 62 (gt (pt k10 65 (gt k10 12 l0 20) (wI ((wI (40 * l1)) + (gt h1 62 (gt h1 12 l0 17) l1))) l4) 12 l0 17) l1) + 1))) := (frpN (frpN fk10))
      generalize pt (pt k10 65 (gt k10 12 l0 20) (wI ((wI (40 * l1)) + (gt h1 62 (gt h1 12 l0 17) l1))) l4) 62 (gt (pt k10 65 (gt k10 12 l0 20) (wI ((wI (40 * l1)) + (gt h1 62 (gt h1 12 l0 17) l1))) l4) 12 l0 17) l1 (wI ((gt (pt k10 65 (gt k10 12 l0 20) (wI ((wI (40 * l1)) + (gt h1 62 (gt h1 12 l0 17) l1))) l4) 62 (gt (pt k10 65 (gt k10 12 l0 20) (wI ((wI (40 * l1)) + (gt h1 62 (gt h1 12 l0 17) l1))) l4) 12 l0 17) l1) + 1)) = k13 at hF fk13
      obtain ⟨g14, hF⟩ := zg hF
      obtain ⟨_, rfl⟩ := zr hF
      exact fk13
    · have hF := im c6 hF
      obtain ⟨_, rfl⟩ := zr hF
      exact ((frrN h).tr (nf_X12_noAct e1))
  · have hF := im c3 hF
    obtain ⟨_, rfl⟩ := zr hF
    exact ((frrN h).tr (nf_X12_noAct e1))
theorem nf_X12_line {l0 l1 l2 l3 l4 : Int} {h : zH} {r : Int} {h' : zH} (hF : F_X12_line l0 l1 l2 l3 l4 h = some (r, h')) : FrN h h' := n_X12_line_0 hF
theorem n_X12_wipe_0 {l0 l1 : Int} {h : zH} {r : Int} {h' : zH} (hF : F_X12_wipe_0 l0 l1 h = some (r, h')) : FrN h h' := by
  unfold F_X12_wipe_0 at hF
  obtain ⟨g2, hF⟩ := zg hF
  obtain ⟨r1, h1, e1, hF⟩ := zb_some hF
  by_cases c3 : r1 = 0
  · have hF := ip c3 hF
    obtain ⟨g4, hF⟩ := zg hF
    obtain ⟨g5, hF⟩ := zg hF
    obtain ⟨_, rfl⟩ := zr hF
    exact (frpN ((frrN h).tr (nf_X12_noAct e1)))
  · have hF := im c3 hF
    obtain ⟨_, rfl⟩ := zr hF
    exact ((frrN h).tr (nf_X12_noAct e1))
theorem nf_X12_wipe {l0 l1 : Int} {h : zH} {r : Int} {h' : zH} (hF : F_X12_wipe l0 l1 h = some (r, h')) : FrN h h' := n_X12_wipe_0 hF
theorem n_X12_isSlot_0 {l0 : Int} {h : zH} {r : Int} {h' : zH} (hF : F_X12_isSlot_0 l0 h = some (r, h')) : FrN h h' := by
  unfold F_X12_isSlot_0 at hF
  obtain ⟨r1, h1, e1, hF⟩ := zb_some hF
  obtain ⟨_, hF⟩ := zg hF
  obtain ⟨_, rfl⟩ := zr hF
  exact ((frrN h).tr (nf_X12_in e1))
theorem nf_X12_isSlot {l0 : Int} {h : zH} {r : Int} {h' : zH} (hF : F_X12_isSlot l0 h = some (r, h')) : FrN h h' := n_X12_isSlot_0 hF
theorem n_X12_isWrong_0 {l0 l1 l2 : Int} {h : zH} {r : Int} {h' : zH} (hF : F_X12_isWrong_0 l0 l1 l2 h = some (r, h')) : FrN h h' := by
  unfold F_X12_isWrong_0 at hF
  by_cases c1 : l0 = 0 ∨ l0 = 2
  · have hF := ip c1 hF
    obtain ⟨r6, h6, e6, hF⟩ := zb_some hF
    by_cases c7 : r6 = 0
    · have hF := ip c7 hF
      obtain ⟨_, rfl⟩ := zr hF
      exact ((frrN h).tr (nf_X12_isSlot e6))
    · have hF := im c7 hF
      obtain ⟨r8, h8, e8, hF⟩ := zb_some hF
      by_cases c9 : r8 ≠ 0
      · have hF := ip c9 hF
        obtain ⟨_, rfl⟩ := zr hF
        exact (((frrN h).tr (nf_X12_isSlot e6)).tr (nf_X12_in e8))
      · have hF := im c9 hF
        obtain ⟨_, rfl⟩ := zr hF
        exact (((frrN h).tr (nf_X12_isSlot e6)).tr (nf_X12_in e8))
  · have hF := im c1 hF
    by_cases c10 : l0 = 1
    · have hF := ip c10 hF
      obtain ⟨r15, h15, e15, hF⟩ := zb_some hF
      by_cases c16 : r15 = 0
      · have hF := ip c16 hF
        obtain ⟨_, rfl⟩ := zr hF
        exact ((frrN h).tr (nf_X12_isSlot e15))
      · have hF := im c16 hF
        obtain ⟨r17, h17, e17, hF⟩ := zb_some hF
        by_cases c18 : r17 ≠ 0
        · have hF := ip c18 hF
          obtain ⟨_, rfl⟩ := zr hF
          exact (((frrN h).tr (nf_X12_isSlot e15)).tr (nf_X12_in e17))
        · have hF := im c18 hF
          obtain ⟨_, rfl⟩ := zr hF
          exact (((frrN h).tr (nf_X12_isSlot e15)).tr (nf_X12_in e17))
    · have hF := im c10 hF
      by_cases c19 : l0 = 3 ∨ l0 = 4
      · have hF := ip c19 hF
        obtain ⟨r22, h22, e22, hF⟩ := zb_some hF
        by_cases c23 : r22 ≠ 0
        · have hF := ip c23 hF
          obtain ⟨_, rfl⟩ := zr hF
          exact ((frrN h).tr (nf_X12_isSlot e22))
        · have hF := im c23 hF
          obtain ⟨_, rfl⟩ := zr hF
          exact ((frrN h).tr (nf_X12_isSlot e22))
      · have hF := im c19 hF
        by_cases c24 : l0 = 5
        · have hF := ip c24 hF
          obtain ⟨r29, h29, e29, hF⟩ := zb_some hF
          by_cases c30 : r29 = 0
          · have hF := ip c30 hF
            obtain ⟨_, rfl⟩ := zr hF
            exact ((frrN h).tr (nf_X12_isSlot e29))
          · have hF := im c30 hF
            obtain ⟨r31, h31, e31, hF⟩ := zb_some hF
            by_cases c32 : r31 ≠ 0
            · have hF := ip c32 hF
              obtain ⟨_, rfl⟩ := zr hF
              exact (((frrN h).tr (nf_X12_isSlot e29)).tr (nf_X12_isSlot e31))
            · have hF := im c32 hF
              obtain ⟨_, rfl⟩ := zr hF
              exact (((frrN h).tr (nf_X12_isSlot e29)).tr (nf_X12_isSlot e31))
        · have hF := im c24 hF
          by_cases c33 : l0 = 6
          · have hF := ip c33 hF
            obtain ⟨r38, h38, e38, hF⟩ := zb_some hF
            by_cases c39 : r38 = 0
            · have hF := ip c39 hF
              obtain ⟨_, rfl⟩ := zr hF
              exact ((frrN h).tr (nf_X12_isSlot e38))
            · have hF := im c39 hF
              obtain ⟨r40, h40, e40, hF⟩ := zb_some hF
              by_cases c41 : r40 ≠ 0
              · have hF := ip c41 hF
                obtain ⟨_, rfl⟩ := zr hF
                exact (((frrN h).tr (nf_X12_isSlot e38)).tr (nf_X12_in e40))
              · have hF := im c41 hF
                obtain ⟨_, rfl⟩ := zr hF
                exact (((frrN h).tr (nf_X12_isSlot e38)).tr (nf_X12_in e40))
          · have hF := im c33 hF
            by_cases c42 : l0 = 7
            · have hF := ip c42 hF
              obtain ⟨r47, h47, e47, hF⟩ := zb_some hF
              by_cases c48 : r47 = 0
              · have hF := ip c48 hF
                obtain ⟨_, rfl⟩ := zr hF
                exact ((frrN h).tr (nf_X12_in e47))
              · have hF := im c48 hF
                obtain ⟨r49, h49, e49, hF⟩ := zb_some hF
                by_cases c50 : r49 ≠ 0
                · have hF := ip c50 hF
                  obtain ⟨_, rfl⟩ := zr hF
                  exact (((frrN h).tr (nf_X12_in e47)).tr (nf_X12_isSlot e49))
                · have hF := im c50 hF
                  obtain ⟨_, rfl⟩ := zr hF
                  exact (((frrN h).tr (nf_X12_in e47)).tr (nf_X12_isSlot e49))
            · have hF := im c42 hF
              by_cases c51 : l0 = 8 ∨ l0 = 14
              · have hF := ip c51 hF
                obtain ⟨r54, h54, e54, hF⟩ := zb_some hF
                by_cases c55 : r54 ≠ 0
                · have hF := ip c55 hF
                  obtain ⟨_, rfl⟩ := zr hF
                  exact ((frrN h).tr (nf_X12_in e54))
                · have hF := im c55 hF
                  obtain ⟨_, rfl⟩ := zr hF
                  exact ((frrN h).tr (nf_X12_in e54))
              · have hF := im c51 hF
                by_cases c56 : l0 = 9 ∨ l0 = 10 ∨ l0 = 12 ∨ l0 = 13
                · have hF := ip c56 hF
                  obtain ⟨r59, h59, e59, hF⟩ := zb_some hF
                  by_cases c60 : r59 ≠ 0
                  · have hF := ip c60 hF
                    obtain ⟨_, rfl⟩ := zr hF
                    exact ((frrN h).tr (nf_X12_in e59))
                  · have hF := im c60 hF
                    obtain ⟨_, rfl⟩ := zr hF
                    exact ((frrN h).tr (nf_X12_in e59))
                · have hF := im c56 hF
                  by_cases c61 : l0 = 11
                  · have hF := ip c61 hF
                    obtain ⟨r64, h64, e64, hF⟩ := zb_some hF
                    by_cases c65 : r64 ≠ 0
                    · have hF := ip c65 hF
                      obtain ⟨_, rfl⟩ := zr hF
                      exact ((frrN h).tr (nf_X12_in e64))
                    · have hF := im c65 hF
                      obtain ⟨_, rfl⟩ := zr hF
                      exact ((frrN h).tr (nf_X12_in e64))
                  · have hF := im c61 hF
                    obtain ⟨r66, h66, e66, hF⟩ := zb_some hF
                    by_cases c67 : r66 ≠ 0
                    · have hF := ip c67 hF
                      obtain ⟨_, rfl⟩ := zr hF
                      exact ((frrN h).tr (nf_X12_in e66))
                    · have hF := im c67 hF
                      obtain ⟨_, rfl⟩ := zr hF
                      exact ((frrN h).tr (nf_X12_in e66))
theorem nf_X12_isWrong {l0 l1 l2 : Int} {h : zH} {r : Int} {h' : zH} (hF : F_X12_isWrong l0 l1 l2 h = some (r, h')) : FrN h h' := n_X12_isWrong_0 hF
theorem n_X12_begins_0 {l0 : Int} {h : zH} {r : Int} {h' : zH} (hF : F_X12_begins_0 l0 h = some (r, h')) : FrN h h' := by
  unfold F_X12_begins_0 at hF
  by_cases c1 : l0 = 11
  · have hF := ip c1 hF
    obtain ⟨_, rfl⟩ := zr hF
    exact (frrN h)
  · have hF := im c1 hF
    by_cases c2 : l0 = 12
    · have hF := ip c2 hF
      obtain ⟨_, rfl⟩ := zr hF
      exact (frrN h)
    · have hF := im c2 hF
      by_cases c3 : l0 ≠ 13
      · have hF := ip c3 hF
        obtain ⟨_, rfl⟩ := zr hF
        exact (frrN h)
      · have hF := im c3 hF
        obtain ⟨_, rfl⟩ := zr hF
        exact (frrN h)
theorem nf_X12_begins {l0 : Int} {h : zH} {r : Int} {h' : zH} (hF : F_X12_begins l0 h = some (r, h')) : FrN h h' := n_X12_begins_0 hF
theorem n_X12_judge_338 {l0 l1 l2 : Int} {h : zH} {r : Int} {h' : zH} (hF : F_X12_judge_338 l0 l1 l2 h = some (r, h')) : FrN h h' := by
  unfold F_X12_judge_338 at hF
  obtain ⟨g1, hF⟩ := zg hF
  by_cases c2 : gt h 12 l0 21 ≠ 0
  · have hF := ip c2 hF
    obtain ⟨_, rfl⟩ := zr hF
    exact (frrN h)
  · have hF := im c2 hF
    by_cases c3 : l2 ≤ 0
    · have hF := ip c3 hF
      obtain ⟨_, rfl⟩ := zr hF
      exact (frrN h)
    · have hF := im c3 hF
      obtain ⟨g4, hF⟩ := zg hF
      obtain ⟨g5, hF⟩ := zg hF
      obtain ⟨_, rfl⟩ := zr hF
      exact (frpN (frpN (frrN h)))
theorem n_X12_judge_316 {ag14 : Int → Int → Int → Int → zH → zO} (hag14 : ∀ (l0 l1 l2 l3 : Int) (h : zH) (r : Int) (h' : zH), ag14 l0 l1 l2 l3 h = some (r, h') → FrN h h') {l0 l1 l2 l3 l5 : Int} {h : zH} {r : Int} {h' : zH} (hF : F_X12_judge_316 ag14 l0 l1 l2 l3 l5 h = some (r, h')) : FrN h h' := by
  unfold F_X12_judge_316 at hF
  by_cases c1 : l5 ≤ 0
  · have hF := ip c1 hF
    exact (frrN h).tr (hag14 _ _ _ _ _ _ _ hF)
  · have hF := im c1 hF
    obtain ⟨g2, hF⟩ := zg hF
    exact (frpN (frpN (frrN h))).tr (hag14 _ _ _ _ _ _ _ hF)
theorem n_X12_judge_291 {ag268 : Int → Int → Int → Int → Int → Int → zH → zO} (hag268 : ∀ (l0 l1 l2 l3 l6 l7 : Int) (h : zH) (r : Int) (h' : zH), ag268 l0 l1 l2 l3 l6 l7 h = some (r, h') → FrN h h') {l0 l1 l2 l3 l7 : Int} {h : zH} {r : Int} {h' : zH} (hF : F_X12_judge_291 ag268 l0 l1 l2 l3 l7 h = some (r, h')) : FrN h h' := by
  unfold F_X12_judge_291 at hF
  exact (frrN h).tr (hag268 _ _ _ _ _ _ _ _ _ hF)
theorem n_X12_judge_268b {ag14 : Int → Int → Int → Int → zH → zO} {ag268 : Int → Int → Int → Int → Int → Int → zH → zO} (hag14 : ∀ (l0 l1 l2 l3 : Int) (h : zH) (r : Int) (h' : zH), ag14 l0 l1 l2 l3 h = some (r, h') → FrN h h') (hag268 : ∀ (l0 l1 l2 l3 l6 l7 : Int) (h : zH) (r : Int) (h' : zH), ag268 l0 l1 l2 l3 l6 l7 h = some (r, h') → FrN h h') {l0 l1 l2 l3 l6 l7 : Int} {h : zH} {r : Int} {h' : zH} (hF : F_X12_judge_268b ag14 ag268 l0 l1 l2 l3 l6 l7 h = some (r, h')) : FrN h h' := by
  unfold F_X12_judge_268b at hF
  by_cases c1 : l2 ≤ l7
  · have hF := ip c1 hF
    by_cases c2 : l6 = 0
    · have hF := ip c2 hF
      exact (frrN h).tr (n_X12_judge_316 hag14 hF)
    · have hF := im c2 hF
      exact (frrN h).tr (n_X12_judge_316 hag14 hF)
  · have hF := im c1 hF
    by_cases c3 : l6 ≠ 0
    · have hF := ip c3 hF
      exact (frrN h).tr (n_X12_judge_291 hag268 hF)
    · have hF := im c3 hF
      obtain ⟨g4, hF⟩ := zg hF
      obtain ⟨g5, hF⟩ := zg hF
      obtain ⟨g6, hF⟩ := zg hF
      by_cases c7 : gt h 66 (gt h 12 l0 23) l7 ≠ 11
      · have hF := ip c7 hF
        exact (frrN h).tr (hag268 _ _ _ _ _ _ _ _ _ hF)
      · have hF := im c7 hF
        exact (frrN h).tr (n_X12_judge_291 hag268 hF)
theorem n_X12_judge_268 {ag14 : Int → Int → Int → Int → zH → zO} (hag14 : ∀ (l0 l1 l2 l3 : Int) (h : zH) (r : Int) (h' : zH), ag14 l0 l1 l2 l3 h = some (r, h') → FrN h h') : ∀ (n : Nat) (l0 l1 l2 l3 l6 l7 : Int) (h : zH) (r : Int) (h' : zH), F_X12_judge_268 ag14 n l0 l1 l2 l3 l6 l7 h = some (r, h') → FrN h h'
  | 0, _, _, _, _, _, _, _, _, _, hF => by cases hF
  | n + 1, _, _, _, _, _, _, _, _, _, hF => n_X12_judge_268b hag14 (n_X12_judge_268 hag14 n) hF
theorem n_X12_judge_250 {ag14 : Int → Int → Int → Int → zH → zO} (hag14 : ∀ (l0 l1 l2 l3 : Int) (h : zH) (r : Int) (h' : zH), ag14 l0 l1 l2 l3 h = some (r, h') → FrN h h') {l0 l1 l2 l3 l4 l5 : Int} {h : zH} {r : Int} {h' : zH} (hF : F_X12_judge_250 ag14 l0 l1 l2 l3 l4 l5 h = some (r, h')) : FrN h h' := by
  unfold F_X12_judge_250 at hF
  by_cases c1 : l5 ≠ 0
  · have hF := ip c1 hF
    exact (frrN h).tr (n_X12_judge_316 hag14 hF)
  · have hF := im c1 hF
    by_cases c2 : l4 ≠ 10
    · have hF := ip c2 hF
      exact (frrN h).tr (n_X12_judge_316 hag14 hF)
    · have hF := im c2 hF
      exact (frrN h).tr (n_X12_judge_268 hag14 _ _ _ _ _ _ _ _ _ _ hF)
theorem n_X12_judge_198 {ag14 : Int → Int → Int → Int → zH → zO} (hag14 : ∀ (l0 l1 l2 l3 : Int) (h : zH) (r : Int) (h' : zH), ag14 l0 l1 l2 l3 h = some (r, h') → FrN h h') {l0 l1 l2 l3 l4 l5 : Int} {h : zH} {r : Int} {h' : zH} (hF : F_X12_judge_198 ag14 l0 l1 l2 l3 l4 l5 h = some (r, h')) : FrN h h' := by
  unfold F_X12_judge_198 at hF
  by_cases c1 : l5 ≠ 0
  · have hF := ip c1 hF
    exact (frrN h).tr (n_X12_judge_250 hag14 hF)
  · have hF := im c1 hF
    obtain ⟨r2, h2, e2, hF⟩ := zb_some hF
    by_cases c3 : r2 = 0
    · have hF := ip c3 hF
      exact ((frrN h).tr (nf_X12_begins e2)).tr (n_X12_judge_250 hag14 hF)
    · have hF := im c3 hF
      by_cases c4 : l2 ≤ 7
      · have hF := ip c4 hF
        obtain ⟨g6, hF⟩ := zg hF
        obtain ⟨g7, hF⟩ := zg hF
        obtain ⟨g8, hF⟩ := zg hF
        obtain ⟨g9, hF⟩ := zg hF
        exact (frpN (frpN ((frrN h).tr (nf_X12_begins e2)))).tr (n_X12_judge_316 hag14 hF)
      · have hF := im c4 hF
        exact ((frrN h).tr (nf_X12_begins e2)).tr (n_X12_judge_316 hag14 hF)
theorem n_X12_judge_167 {ag14 : Int → Int → Int → Int → zH → zO} (hag14 : ∀ (l0 l1 l2 l3 : Int) (h : zH) (r : Int) (h' : zH), ag14 l0 l1 l2 l3 h = some (r, h') → FrN h h') {l0 l1 l2 l3 l4 : Int} {h : zH} {r : Int} {h' : zH} (hF : F_X12_judge_167 ag14 l0 l1 l2 l3 l4 h = some (r, h')) : FrN h h' := by
  unfold F_X12_judge_167 at hF
  exact (frrN h).tr (n_X12_judge_316 hag14 hF)
theorem n_X12_judge_139 {ag14 : Int → Int → Int → Int → zH → zO} (hag14 : ∀ (l0 l1 l2 l3 : Int) (h : zH) (r : Int) (h' : zH), ag14 l0 l1 l2 l3 h = some (r, h') → FrN h h') {l0 l1 l2 l3 l4 : Int} {h : zH} {r : Int} {h' : zH} (hF : F_X12_judge_139 ag14 l0 l1 l2 l3 l4 h = some (r, h')) : FrN h h' := by
  unfold F_X12_judge_139 at hF
  by_cases c1 : l2 = 0
  · have hF := ip c1 hF
    exact (frrN h).tr (n_X12_judge_167 hag14 hF)
  · have hF := im c1 hF
    obtain ⟨g2, hF⟩ := zg hF
    obtain ⟨g3, hF⟩ := zg hF
    obtain ⟨g4, hF⟩ := zg hF
    by_cases c5 : gt h 66 (gt h 12 l0 23) (wI (l2 - 1)) ≠ 13
    · have hF := ip c5 hF
      exact (frrN h).tr (n_X12_judge_167 hag14 hF)
    · have hF := im c5 hF
      obtain ⟨g6, hF⟩ := zg hF
      by_cases c7 : gt h 67 (gt h 12 l0 24) (wI (l2 - 1)) = 0
      · have hF := ip c7 hF
        by_cases c9 : l4 ≠ 15
        · have hF := ip c9 hF
          exact (frrN h).tr (n_X12_judge_316 hag14 hF)
        · have hF := im c9 hF
          exact (frpN (frrN h)).tr (n_X12_judge_316 hag14 hF)
      · have hF := im c7 hF
        exact (frrN h).tr (n_X12_judge_167 hag14 hF)
theorem n_X12_judge_120 {ag14 : Int → Int → Int → Int → zH → zO} (hag14 : ∀ (l0 l1 l2 l3 : Int) (h : zH) (r : Int) (h' : zH), ag14 l0 l1 l2 l3 h = some (r, h') → FrN h h') {l0 l1 l2 l3 l4 l5 : Int} {h : zH} {r : Int} {h' : zH} (hF : F_X12_judge_120 ag14 l0 l1 l2 l3 l4 l5 h = some (r, h')) : FrN h h' := by
  unfold F_X12_judge_120 at hF
  by_cases c1 : l5 ≠ 0
  · have hF := ip c1 hF
    exact (frrN h).tr (n_X12_judge_198 hag14 hF)
  · have hF := im c1 hF
    by_cases c2 : l4 = 14
    · have hF := ip c2 hF
      exact (frrN h).tr (n_X12_judge_139 hag14 hF)
    · have hF := im c2 hF
      by_cases c3 : l4 ≠ 15
      · have hF := ip c3 hF
        exact (frrN h).tr (n_X12_judge_198 hag14 hF)
      · have hF := im c3 hF
        exact (frrN h).tr (n_X12_judge_139 hag14 hF)
theorem n_X12_judge_14b {ag14 : Int → Int → Int → Int → zH → zO} (hag14 : ∀ (l0 l1 l2 l3 : Int) (h : zH) (r : Int) (h' : zH), ag14 l0 l1 l2 l3 h = some (r, h') → FrN h h') {l0 l1 l2 l3 : Int} {h : zH} {r : Int} {h' : zH} (hF : F_X12_judge_14b ag14 l0 l1 l2 l3 h = some (r, h')) : FrN h h' := by
  unfold F_X12_judge_14b at hF
  obtain ⟨g1, hF⟩ := zg hF
  obtain ⟨g2, hF⟩ := zg hF
  obtain ⟨g3, hF⟩ := zg hF
  by_cases c4 : gt h 62 (gt h 12 l0 17) l1 ≤ l3
  · have hF := ip c4 hF
    exact (frrN h).tr (n_X12_judge_338 hF)
  · have hF := im c4 hF
    by_cases c5 : gt h 12 l0 21 ≠ 0
    · have hF := ip c5 hF
      exact (frrN h).tr (n_X12_judge_338 hF)
    · have hF := im c5 hF
      obtain ⟨g6, hF⟩ := zg hF
      obtain ⟨g7, hF⟩ := zg hF
      obtain ⟨g8, hF⟩ := zg hF
      obtain ⟨g9, hF⟩ := zg hF
      obtain ⟨r10, h10, e10, hF⟩ := zb_some hF
      by_cases c11 : r10 = 0
      · have hF := ip c11 hF
        by_cases c13 : gt h 63 (gt h 12 l0 18) (wI ((wI (40 * l1)) + l3)) ≠ 16
        · have hF := ip c13 hF
          exact ((frrN h).tr (nf_X12_isWrong e10)).tr (n_X12_judge_120 hag14 hF)
        · have hF := im c13 hF
          by_cases c14 : l2 ≠ 0
          · have hF := ip c14 hF
            exact ((frrN h).tr (nf_X12_isWrong e10)).tr (n_X12_judge_316 hag14 hF)
          · have hF := im c14 hF
            exact ((frrN h).tr (nf_X12_isWrong e10)).tr (n_X12_judge_316 hag14 hF)
      · have hF := im c11 hF
        exact ((frrN h).tr (nf_X12_isWrong e10)).tr (n_X12_judge_120 hag14 hF)
theorem n_X12_judge_14 : ∀ (n : Nat) (l0 l1 l2 l3 : Int) (h : zH) (r : Int) (h' : zH), F_X12_judge_14 n l0 l1 l2 l3 h = some (r, h') → FrN h h'
  | 0, _, _, _, _, _, _, _, hF => by cases hF
  | n + 1, _, _, _, _, _, _, _, hF => n_X12_judge_14b (n_X12_judge_14 n) hF
theorem n_X12_judge_0 {l0 l1 : Int} {h : zH} {r : Int} {h' : zH} (hF : F_X12_judge_0 l0 l1 h = some (r, h')) : FrN h h' := by
  unfold F_X12_judge_0 at hF
  obtain ⟨g1, hF⟩ := zg hF
  exact (frpN (frpN (frrN h))).tr (n_X12_judge_14 _ _ _ _ _ _ _ _ hF)
theorem nf_X12_judge {l0 l1 : Int} {h : zH} {r : Int} {h' : zH} (hF : F_X12_judge l0 l1 h = some (r, h')) : FrN h h' := n_X12_judge_0 hF
theorem n_X12_fault_0 {l0 l1 l2 : Int} {h : zH} {r : Int} {h' : zH} (hF : F_X12_fault_0 l0 l1 l2 h = some (r, h')) : FrN h h' := by
  unfold F_X12_fault_0 at hF
  obtain ⟨g2, hF⟩ := zg hF
  obtain ⟨r1, h1, e1, hF⟩ := zb_some hF
  by_cases c3 : r1 = 0
  · have hF := ip c3 hF
    obtain ⟨r4, h4, e4, hF⟩ := zb_some hF
    by_cases c5 : r4 ≠ 0
    · have hF := ip c5 hF
      obtain ⟨r6, h6, e6, hF⟩ := zb_some hF
      by_cases c7 : l2 ≠ 0
      · have hF := ip c7 hF
        obtain ⟨_, rfl⟩ := zr hF
        exact ((((frrN h).tr (nf_X12_noAct e1)).tr (nf_X12_in e4)).tr (nf_X12_judge e6))
      · have hF := im c7 hF
        obtain ⟨_, rfl⟩ := zr hF
        exact ((((frrN h).tr (nf_X12_noAct e1)).tr (nf_X12_in e4)).tr (nf_X12_judge e6))
    · have hF := im c5 hF
      obtain ⟨_, rfl⟩ := zr hF
      exact (((frrN h).tr (nf_X12_noAct e1)).tr (nf_X12_in e4))
  · have hF := im c3 hF
    obtain ⟨_, rfl⟩ := zr hF
    exact ((frrN h).tr (nf_X12_noAct e1))
theorem nf_X12_fault {l0 l1 l2 : Int} {h : zH} {r : Int} {h' : zH} (hF : F_X12_fault l0 l1 l2 h = some (r, h')) : FrN h h' := n_X12_fault_0 hF
theorem n_X12_begin_0 {l0 l1 l2 l3 : Int} {h : zH} {r : Int} {h' : zH} (hF : F_X12_begin_0 l0 l1 l2 l3 h = some (r, h')) : FrN h h' := by
  unfold F_X12_begin_0 at hF
  obtain ⟨g1, hF⟩ := zg hF
  obtain ⟨g2, hF⟩ := zg hF
  obtain ⟨g3, hF⟩ := zg hF
  obtain ⟨g4, hF⟩ := zg hF
  obtain ⟨g5, hF⟩ := zg hF
  have hF := zl_e hF
  have fk6 : FrN h (pt (pt h 68 (gt h 12 l0 26) (gt h 12 l0 25) l1) 69 (gt (pt h 68 (gt h 12 l0 26) (gt h 12 l0 25) l1) 12 l0 27) (gt (pt h 68 (gt h 12 l0 26) (gt h 12 l0 25) l1) 12 l0 25) l2) := (frpN (frpN (frrN h)))
  generalize pt (pt h 68 (gt h 12 l0 26) (gt h 12 l0 25) l1) 69 (gt (pt h 68 (gt h 12 l0 26) (gt h 12 l0 25) l1) 12 l0 27) (gt (pt h 68 (gt h 12 l0 26) (gt h 12 l0 25) l1) 12 l0 25) l2 = k6 at hF fk6
  obtain ⟨g7, hF⟩ := zg hF
  obtain ⟨g8, hF⟩ := zg hF
  obtain ⟨g9, hF⟩ := zg hF
  obtain ⟨g10, hF⟩ := zg hF
  have hF := zl_e hF
  have fk11 : FrN h (pt (pt k6 70 (gt k6 12 l0 28) (gt k6 12 l0 25) l3) 71 (gt (pt k6 70 (gt k6 12 l0 28) (gt k6 12 l0 25) l3) 12 l0 29) (gt (pt k6 70 (gt k6 12 l0 28) (gt k6 12 l0 25) l3) 12 l0 25) 0) := (frpN (frpN fk6))
  generalize pt (pt k6 70 (gt k6 12 l0 28) (gt k6 12 l0 25) l3) 71 (gt (pt k6 70 (gt k6 12 l0 28) (gt k6 12 l0 25) l3) 12 l0 29) (gt (pt k6 70 (gt k6 12 l0 28) (gt k6 12 l0 25) l3) 12 l0 25) 0 = k11 at hF fk11
  obtain ⟨g12, hF⟩ := zg hF
  obtain ⟨g13, hF⟩ := zg hF
  obtain ⟨g14, hF⟩ := zg hF
  obtain ⟨g15, hF⟩ := zg hF
  have hF := zl_e hF
  have fk16 : FrN h (pt (pt k11 72 (gt k11 12 l0 30) (gt k11 12 l0 25) (-1)) 73 (gt (pt k11 72 (gt k11 12 l0 30) (gt k11 12 l0 25) (-1)) 12 l0 31) (gt (pt k11 72 (gt k11 12 l0 30) (gt k11 12 l0 25) (-1)) 12 l0 25) (-1)) := (frpN (frpN fk11))
  generalize pt (pt k11 72 (gt k11 12 l0 30) (gt k11 12 l0 25) (-1)) 73 (gt (pt k11 72 (gt k11 12 l0 30) (gt k11 12 l0 25) (-1)) 12 l0 31) (gt (pt k11 72 (gt k11 12 l0 30) (gt k11 12 l0 25) (-1)) 12 l0 25) (-1) = k16 at hF fk16
  obtain ⟨_, rfl⟩ := zr hF
  exact (frpN fk16)
theorem nf_X12_begin {l0 l1 l2 l3 : Int} {h : zH} {r : Int} {h' : zH} (hF : F_X12_begin l0 l1 l2 l3 h = some (r, h')) : FrN h h' := n_X12_begin_0 hF
theorem n_X12_goTo_0 {l0 l1 : Int} {h : zH} {r : Int} {h' : zH} (hF : F_X12_goTo_0 l0 l1 h = some (r, h')) : FrN h h' := by
  unfold F_X12_goTo_0 at hF
  obtain ⟨g1, hF⟩ := zg hF
  obtain ⟨g2, hF⟩ := zg hF
  obtain ⟨g3, hF⟩ := zg hF
  obtain ⟨_, rfl⟩ := zr hF
  exact (frpN (frrN h))
theorem nf_X12_goTo {l0 l1 : Int} {h : zH} {r : Int} {h' : zH} (hF : F_X12_goTo l0 l1 h = some (r, h')) : FrN h h' := n_X12_goTo_0 hF
theorem n_X12_beginScope_0 {l0 l1 : Int} {h : zH} {r : Int} {h' : zH} (hF : F_X12_beginScope_0 l0 l1 h = some (r, h')) : FrN h h' := by
  unfold F_X12_beginScope_0 at hF
  obtain ⟨g1, hF⟩ := zg hF
  obtain ⟨r2, h2, e2, hF⟩ := zb_some hF
  obtain ⟨_, rfl⟩ := zr hF
  exact (frpN ((frrN h).tr (nf_X12_begin e2)))
theorem nf_X12_beginScope {l0 l1 : Int} {h : zH} {r : Int} {h' : zH} (hF : F_X12_beginScope l0 l1 h = some (r, h')) : FrN h h' := n_X12_beginScope_0 hF
theorem n_X12_beginAct_2b {ag2 : Int → Int → Int → Int → zH → zO} (hag2 : ∀ (l0 l1 l2 l3 : Int) (h : zH) (r : Int) (h' : zH), ag2 l0 l1 l2 l3 h = some (r, h') → FrN h h') {l0 l1 l2 l3 : Int} {h : zH} {r : Int} {h' : zH} (hF : F_X12_beginAct_2b ag2 l0 l1 l2 l3 h = some (r, h')) : FrN h h' := by
  unfold F_X12_beginAct_2b at hF
  by_cases c1 : 8 ≤ l3
  · have hF := ip c1 hF
    obtain ⟨g2, hF⟩ := zg hF
    obtain ⟨g3, hF⟩ := zg hF
    obtain ⟨g4, hF⟩ := zg hF
    have hF := zl_e hF
    have fk5 : FrN h (pt (pt h 74 (gt h 12 l0 32) (wI (8 * (gt h 12 l0 33))) l2) 12 l0 33 (wI ((gt (pt h 74 (gt h 12 l0 32) (wI (8 * (gt h 12 l0 33))) l2) 12 l0 33) + 1))) := (frpN (frpN (frrN h)))
    generalize pt (pt h 74 (gt h 12 l0 32) (wI (8 * (gt h 12 l0 33))) l2) 12 l0 33 (wI ((gt (pt h 74 (gt h 12 l0 32) (wI (8 * (gt h 12 l0 33))) l2) 12 l0 33) + 1)) = k5 at hF fk5
    obtain ⟨r6, h6, e6, hF⟩ := zb_some hF
    obtain ⟨g7, hF⟩ := zg hF
    obtain ⟨g8, hF⟩ := zg hF
    have hF := zl_e hF
    have fk9 : FrN h (pt (pt h6 71 (gt h6 12 l0 29) (wI ((gt h6 12 l0 25) - 1)) 0) 12 l0 67 (wI ((gt (pt h6 71 (gt h6 12 l0 29) (wI ((gt h6 12 l0 25) - 1)) 0) 12 l0 25) - 1))) := (frpN (frpN (fk5.tr (nf_X12_begin e6))))
    generalize pt (pt h6 71 (gt h6 12 l0 29) (wI ((gt h6 12 l0 25) - 1)) 0) 12 l0 67 (wI ((gt (pt h6 71 (gt h6 12 l0 29) (wI ((gt h6 12 l0 25) - 1)) 0) 12 l0 25) - 1)) = k9 at hF fk9
    obtain ⟨r10, h10, e10, hF⟩ := zb_some hF
    obtain ⟨r11, h11, e11, hF⟩ := zb_some hF
    obtain ⟨_, rfl⟩ := zr hF
    exact ((fk9.tr (nf_X12_goTo e10)).tr (nf_X12_beginScope e11))
  · have hF := im c1 hF
    obtain ⟨g12, hF⟩ := zg hF
    obtain ⟨g13, hF⟩ := zg hF
    obtain ⟨g14, hF⟩ := zg hF
    exact (frpN (frrN h)).tr (hag2 _ _ _ _ _ _ _ hF)
theorem n_X12_beginAct_2 : ∀ (n : Nat) (l0 l1 l2 l3 : Int) (h : zH) (r : Int) (h' : zH), F_X12_beginAct_2 n l0 l1 l2 l3 h = some (r, h') → FrN h h'
  | 0, _, _, _, _, _, _, _, hF => by cases hF
  | n + 1, _, _, _, _, _, _, _, hF => n_X12_beginAct_2b (n_X12_beginAct_2 n) hF
theorem n_X12_beginAct_0 {l0 l1 l2 : Int} {h : zH} {r : Int} {h' : zH} (hF : F_X12_beginAct_0 l0 l1 l2 h = some (r, h')) : FrN h h' := by
  unfold F_X12_beginAct_0 at hF
  exact (frrN h).tr (n_X12_beginAct_2 _ _ _ _ _ _ _ _ hF)
theorem nf_X12_beginAct {l0 l1 l2 : Int} {h : zH} {r : Int} {h' : zH} (hF : F_X12_beginAct l0 l1 l2 h = some (r, h')) : FrN h h' := n_X12_beginAct_0 hF
theorem n_X12_lastOf_60 {ag4 : Int → Int → Int → Int → zH → zO} (hag4 : ∀ (l0 l1 l2 l3 : Int) (h : zH) (r : Int) (h' : zH), ag4 l0 l1 l2 l3 h = some (r, h') → FrN h h') {l0 l1 l3 : Int} {h : zH} {r : Int} {h' : zH} (hF : F_X12_lastOf_60 ag4 l0 l1 l3 h = some (r, h')) : FrN h h' := by
  unfold F_X12_lastOf_60 at hF
  exact (frrN h).tr (hag4 _ _ _ _ _ _ _ hF)
theorem n_X12_lastOf_4b {ag4 : Int → Int → Int → Int → zH → zO} (hag4 : ∀ (l0 l1 l2 l3 : Int) (h : zH) (r : Int) (h' : zH), ag4 l0 l1 l2 l3 h = some (r, h') → FrN h h') {l0 l1 l2 l3 : Int} {h : zH} {r : Int} {h' : zH} (hF : F_X12_lastOf_4b ag4 l0 l1 l2 l3 h = some (r, h')) : FrN h h' := by
  unfold F_X12_lastOf_4b at hF
  obtain ⟨g1, hF⟩ := zg hF
  by_cases c2 : gt h 12 l0 34 ≤ l3
  · have hF := ip c2 hF
    obtain ⟨_, rfl⟩ := zr hF
    exact (frrN h)
  · have hF := im c2 hF
    obtain ⟨g3, hF⟩ := zg hF
    obtain ⟨g4, hF⟩ := zg hF
    by_cases c5 : gt h 80 (gt h 12 l0 40) l3 = 0
    · have hF := ip c5 hF
      exact (frrN h).tr (hag4 _ _ _ _ _ _ _ hF)
    · have hF := im c5 hF
      obtain ⟨g6, hF⟩ := zg hF
      by_cases c7 : gt h 76 (gt h 12 l0 36) l3 = 1
      · have hF := ip c7 hF
        exact (frrN h).tr (hag4 _ _ _ _ _ _ _ hF)
      · have hF := im c7 hF
        obtain ⟨g8, hF⟩ := zg hF
        by_cases c9 : gt h 78 (gt h 12 l0 38) l3 ≠ l1
        · have hF := ip c9 hF
          exact (frrN h).tr (hag4 _ _ _ _ _ _ _ hF)
        · have hF := im c9 hF
          by_cases c10 : l2 < 0
          · have hF := ip c10 hF
            exact (frrN h).tr (n_X12_lastOf_60 hag4 hF)
          · have hF := im c10 hF
            obtain ⟨g11, hF⟩ := zg hF
            obtain ⟨g12, hF⟩ := zg hF
            by_cases c13 : gt h 79 (gt h 12 l0 39) l3 ≤ gt h 79 (gt h 12 l0 39) l2
            · have hF := ip c13 hF
              exact (frrN h).tr (hag4 _ _ _ _ _ _ _ hF)
            · have hF := im c13 hF
              exact (frrN h).tr (n_X12_lastOf_60 hag4 hF)
theorem n_X12_lastOf_4 : ∀ (n : Nat) (l0 l1 l2 l3 : Int) (h : zH) (r : Int) (h' : zH), F_X12_lastOf_4 n l0 l1 l2 l3 h = some (r, h') → FrN h h'
  | 0, _, _, _, _, _, _, _, hF => by cases hF
  | n + 1, _, _, _, _, _, _, _, hF => n_X12_lastOf_4b (n_X12_lastOf_4 n) hF
theorem n_X12_lastOf_0 {l0 l1 : Int} {h : zH} {r : Int} {h' : zH} (hF : F_X12_lastOf_0 l0 l1 h = some (r, h')) : FrN h h' := by
  unfold F_X12_lastOf_0 at hF
  exact (frrN h).tr (n_X12_lastOf_4 _ _ _ _ _ _ _ _ hF)
theorem nf_X12_lastOf {l0 l1 : Int} {h : zH} {r : Int} {h' : zH} (hF : F_X12_lastOf l0 l1 h = some (r, h')) : FrN h h' := n_X12_lastOf_0 hF
theorem n_X12_meets_86 {ag5 : Int → Int → Int → Int → Int → zH → zO} (hag5 : ∀ (l0 l1 l2 l3 l4 : Int) (h : zH) (r : Int) (h' : zH), ag5 l0 l1 l2 l3 l4 h = some (r, h') → FrN h h') {l0 l1 l2 l3 l4 l6 : Int} {h : zH} {r : Int} {h' : zH} (hF : F_X12_meets_86 ag5 l0 l1 l2 l3 l4 l6 h = some (r, h')) : FrN h h' := by
  unfold F_X12_meets_86 at hF
  obtain ⟨g1, hF⟩ := zg hF
  obtain ⟨g2, hF⟩ := zg hF
  obtain ⟨g3, hF⟩ := zg hF
  obtain ⟨g4, hF⟩ := zg hF
  obtain ⟨g5, hF⟩ := zg hF
  have hF := zl_e hF
  have fk6 : FrN h (pt (pt h 54 (gt h 12 l0 7) l3 (gt h 54 (gt h 12 l0 7) l4)) 55 (gt (pt h 54 (gt h 12 l0 7) l3 (gt h 54 (gt h 12 l0 7) l4)) 12 l0 8) l3 (gt (pt h 54 (gt h 12 l0 7) l3 (gt h 54 (gt h 12 l0 7) l4)) 55 (gt (pt h 54 (gt h 12 l0 7) l3 (gt h 54 (gt h 12 l0 7) l4)) 12 l0 8) l4)) := (frpN (frpN (frrN h)))
  generalize pt (pt h 54 (gt h 12 l0 7) l3 (gt h 54 (gt h 12 l0 7) l4)) 55 (gt (pt h 54 (gt h 12 l0 7) l3 (gt h 54 (gt h 12 l0 7) l4)) 12 l0 8) l3 (gt (pt h 54 (gt h 12 l0 7) l3 (gt h 54 (gt h 12 l0 7) l4)) 55 (gt (pt h 54 (gt h 12 l0 7) l3 (gt h 54 (gt h 12 l0 7) l4)) 12 l0 8) l4) = k6 at hF fk6
  obtain ⟨g7, hF⟩ := zg hF
  obtain ⟨g8, hF⟩ := zg hF
  have hF := zl_e hF
  have fk9 : FrN h (pt (pt k6 56 (gt k6 12 l0 9) l3 (gt k6 56 (gt k6 12 l0 9) l4)) 57 (gt (pt k6 56 (gt k6 12 l0 9) l3 (gt k6 56 (gt k6 12 l0 9) l4)) 12 l0 10) l3 l6) := (frpN (frpN fk6))
  generalize pt (pt k6 56 (gt k6 12 l0 9) l3 (gt k6 56 (gt k6 12 l0 9) l4)) 57 (gt (pt k6 56 (gt k6 12 l0 9) l3 (gt k6 56 (gt k6 12 l0 9) l4)) 12 l0 10) l3 l6 = k9 at hF fk9
  exact fk9.tr (hag5 _ _ _ _ _ _ _ _ hF)
theorem n_X12_meets_40 {ag5 : Int → Int → Int → Int → Int → zH → zO} (hag5 : ∀ (l0 l1 l2 l3 l4 : Int) (h : zH) (r : Int) (h' : zH), ag5 l0 l1 l2 l3 l4 h = some (r, h') → FrN h h') {l0 l1 l2 l3 l4 : Int} {h : zH} {r : Int} {h' : zH} (hF : F_X12_meets_40 ag5 l0 l1 l2 l3 l4 h = some (r, h')) : FrN h h' := by
  unfold F_X12_meets_40 at hF
  obtain ⟨g2, hF⟩ := zg hF
  obtain ⟨g3, hF⟩ := zg hF
  obtain ⟨g4, hF⟩ := zg hF
  exact (frrN h).tr (n_X12_meets_86 hag5 hF)
theorem n_X12_meets_5b {ag5 : Int → Int → Int → Int → Int → zH → zO} (hag5 : ∀ (l0 l1 l2 l3 l4 : Int) (h : zH) (r : Int) (h' : zH), ag5 l0 l1 l2 l3 l4 h = some (r, h') → FrN h h') {l0 l1 l2 l3 l4 : Int} {h : zH} {r : Int} {h' : zH} (hF : F_X12_meets_5b ag5 l0 l1 l2 l3 l4 h = some (r, h')) : FrN h h' := by
  unfold F_X12_meets_5b at hF
  obtain ⟨g1, hF⟩ := zg hF
  by_cases c2 : gt h 12 l0 6 ≤ l4
  · have hF := ip c2 hF
    by_cases c3 : gt h 12 l0 6 ≤ l3
    · have hF := ip c3 hF
      obtain ⟨_, rfl⟩ := zr hF
      exact (frpN (frrN h))
    · have hF := im c3 hF
      obtain ⟨_, rfl⟩ := zr hF
      exact (frpN (frrN h))
  · have hF := im c2 hF
    obtain ⟨g4, hF⟩ := zg hF
    obtain ⟨g5, hF⟩ := zg hF
    by_cases c6 : gt h 54 (gt h 12 l0 7) l4 ≠ l1
    · have hF := ip c6 hF
      exact (frrN h).tr (n_X12_meets_40 hag5 hF)
    · have hF := im c6 hF
      obtain ⟨g7, hF⟩ := zg hF
      by_cases c8 : gt h 56 (gt h 12 l0 9) l4 ≠ l2
      · have hF := ip c8 hF
        exact (frrN h).tr (n_X12_meets_40 hag5 hF)
      · have hF := im c8 hF
        obtain ⟨g10, hF⟩ := zg hF
        obtain ⟨g12, hF⟩ := zg hF
        by_cases c13 : gt h 55 (gt h 12 l0 8) l4 ≤ wI ((gt h 57 (gt h 12 l0 10) l4) + 1)
        · have hF := ip c13 hF
          exact (frrN h).tr (hag5 _ _ _ _ _ _ _ _ hF)
        · have hF := im c13 hF
          exact (frrN h).tr (n_X12_meets_86 hag5 hF)
theorem n_X12_meets_5 : ∀ (n : Nat) (l0 l1 l2 l3 l4 : Int) (h : zH) (r : Int) (h' : zH), F_X12_meets_5 n l0 l1 l2 l3 l4 h = some (r, h') → FrN h h'
  | 0, _, _, _, _, _, _, _, _, hF => by cases hF
  | n + 1, _, _, _, _, _, _, _, _, hF => n_X12_meets_5b (n_X12_meets_5 n) hF
theorem n_X12_meets_0 {l0 l1 l2 : Int} {h : zH} {r : Int} {h' : zH} (hF : F_X12_meets_0 l0 l1 l2 h = some (r, h')) : FrN h h' := by
  unfold F_X12_meets_0 at hF
  exact (frrN h).tr (n_X12_meets_5 _ _ _ _ _ _ _ _ _ hF)
theorem nf_X12_meets {l0 l1 l2 : Int} {h : zH} {r : Int} {h' : zH} (hF : F_X12_meets l0 l1 l2 h = some (r, h')) : FrN h h' := n_X12_meets_0 hF
theorem n_X12_comesBack_68 {l0 l1 l2 l4 : Int} {h : zH} {r : Int} {h' : zH} (hF : F_X12_comesBack_68 l0 l1 l2 l4 h = some (r, h')) : FrN h h' := by
  unfold F_X12_comesBack_68 at hF
  obtain ⟨g1, hF⟩ := zg hF
  obtain ⟨g2, hF⟩ := zg hF
  obtain ⟨g3, hF⟩ := zg hF
  obtain ⟨g4, hF⟩ := zg hF
  obtain ⟨g5, hF⟩ := zg hF
  have hF := zl_e hF
  have fk6 : FrN h (pt (pt h 59 (gt h 12 l0 13) ((gt h 12 l0 12) % 60) l1) 60 (gt (pt h 59 (gt h 12 l0 13) ((gt h 12 l0 12) % 60) l1) 12 l0 14) ((gt h 12 l0 12) % 60) l2) := (frpN (frpN (frrN h)))
  generalize pt (pt h 59 (gt h 12 l0 13) ((gt h 12 l0 12) % 60) l1) 60 (gt (pt h 59 (gt h 12 l0 13) ((gt h 12 l0 12) % 60) l1) 12 l0 14) ((gt h 12 l0 12) % 60) l2 = k6 at hF fk6
  by_cases c7 : l4 = 0
  · have hF := ip c7 hF
    obtain ⟨g8, hF⟩ := zg hF
    have hF := zl_e hF
    have fk9 : FrN h (pt (pt k6 61 (gt k6 12 l0 15) ((gt h 12 l0 12) % 60) 0) 12 l0 12 (wI ((gt (pt k6 61 (gt k6 12 l0 15) ((gt h 12 l0 12) % 60) 0) 12 l0 12) + 1))) := (frpN (frpN fk6))
    generalize pt (pt k6 61 (gt k6 12 l0 15) ((gt h 12 l0 12) % 60) 0) 12 l0 12 (wI ((gt (pt k6 61 (gt k6 12 l0 15) ((gt h 12 l0 12) % 60) 0) 12 l0 12) + 1)) = k9 at hF fk9
    obtain ⟨_, hF⟩ := zg hF
    obtain ⟨_, rfl⟩ := zr hF
    exact fk9
  · have hF := im c7 hF
    obtain ⟨g10, hF⟩ := zg hF
    have hF := zl_e hF
    have fk11 : FrN h (pt (pt k6 61 (gt k6 12 l0 15) ((gt h 12 l0 12) % 60) 1) 12 l0 12 (wI ((gt (pt k6 61 (gt k6 12 l0 15) ((gt h 12 l0 12) % 60) 1) 12 l0 12) + 1))) := (frpN (frpN fk6))
    generalize pt (pt k6 61 (gt k6 12 l0 15) ((gt h 12 l0 12) % 60) 1) 12 l0 12 (wI ((gt (pt k6 61 (gt k6 12 l0 15) ((gt h 12 l0 12) % 60) 1) 12 l0 12) + 1)) = k11 at hF fk11
    obtain ⟨_, hF⟩ := zg hF
    obtain ⟨_, rfl⟩ := zr hF
    exact fk11
theorem n_X12_comesBack_0 {l0 l1 l2 l3 : Int} {h : zH} {r : Int} {h' : zH} (hF : F_X12_comesBack_0 l0 l1 l2 l3 h = some (r, h')) : FrN h h' := by
  unfold F_X12_comesBack_0 at hF
  obtain ⟨g2, hF⟩ := zg hF
  obtain ⟨r1, h1, e1, hF⟩ := zb_some hF
  by_cases c3 : r1 = 0
  · have hF := ip c3 hF
    obtain ⟨g4, hF⟩ := zg hF
    obtain ⟨g5, hF⟩ := zg hF
    by_cases c6 : r1 = 0
    · have hF := ip c6 hF
      obtain ⟨g7, hF⟩ := zg hF
      obtain ⟨g8, hF⟩ := zg hF
      have hF := zl_e hF
      have fk9 : FrN h (pt (pt h1 52 (gt h1 12 l0 3) l1 2) 53 (gt (pt h1 52 (gt h1 12 l0 3) l1 2) 12 l0 5) (gt (pt h1 52 (gt h1 12 l0 3) l1 2) 12 l0 4) l1) := (frpN (frpN ((frrN h).tr (nf_X12_meets e1))))
      generalize pt (pt h1 52 (gt h1 12 l0 3) l1 2) 53 (gt (pt h1 52 (gt h1 12 l0 3) l1 2) 12 l0 5) (gt (pt h1 52 (gt h1 12 l0 3) l1 2) 12 l0 4) l1 = k9 at hF fk9
      exact (frpN fk9).tr (n_X12_comesBack_68 hF)
    · have hF := im c6 hF
      obtain ⟨g10, hF⟩ := zg hF
      obtain ⟨g11, hF⟩ := zg hF
      obtain ⟨g12, hF⟩ := zg hF
      have hF := zl_e hF
      have fk13 : FrN h (pt (pt h1 52 (gt h1 12 l0 3) l1 2) 58 (gt (pt h1 52 (gt h1 12 l0 3) l1 2) 12 l0 11) l3 (wL ((gt (pt h1 52 (gt h1 12 l0 3) l1 2) 58 (gt (pt h1 52 (gt h1 12 l0 3) l1 2) 12 l0 11) l3) + (gt (pt h1 52 (gt h1 12 l0 3) l1 2) 51 (gt (pt h1 52 (gt h1 12 l0 3) l1 2) 12 l0 2) l1)))) := (frpN (frpN ((frrN h).tr (nf_X12_meets e1))))
      generalize pt (pt h1 52 (gt h1 12 l0 3) l1 2) 58 (gt (pt h1 52 (gt h1 12 l0 3) l1 2) 12 l0 11) l3 (wL ((gt (pt h1 52 (gt h1 12 l0 3) l1 2) 58 (gt (pt h1 52 (gt h1 12 l0 3) l1 2) 12 l0 11) l3) + (gt (pt h1 52 (gt h1 12 l0 3) l1 2) 51 (gt (pt h1 52 (gt h1 12 l0 3) l1 2) 12 l0 2) l1))) = k13 at hF fk13
      exact fk13.tr (n_X12_comesBack_68 hF)
  · have hF := im c3 hF
    obtain ⟨g14, hF⟩ := zg hF
    obtain ⟨g15, hF⟩ := zg hF
    by_cases c16 : r1 = 0
    · have hF := ip c16 hF
      obtain ⟨g17, hF⟩ := zg hF
      obtain ⟨g18, hF⟩ := zg hF
      have hF := zl_e hF
      have fk19 : FrN h (pt (pt h1 52 (gt h1 12 l0 3) l1 3) 53 (gt (pt h1 52 (gt h1 12 l0 3) l1 3) 12 l0 5) (gt (pt h1 52 (gt h1 12 l0 3) l1 3) 12 l0 4) l1) := (frpN (frpN ((frrN h).tr (nf_X12_meets e1))))
      generalize pt (pt h1 52 (gt h1 12 l0 3) l1 3) 53 (gt (pt h1 52 (gt h1 12 l0 3) l1 3) 12 l0 5) (gt (pt h1 52 (gt h1 12 l0 3) l1 3) 12 l0 4) l1 = k19 at hF fk19
      exact (frpN fk19).tr (n_X12_comesBack_68 hF)
    · have hF := im c16 hF
      obtain ⟨g20, hF⟩ := zg hF
      obtain ⟨g21, hF⟩ := zg hF
      obtain ⟨g22, hF⟩ := zg hF
      have hF := zl_e hF
      have fk23 : FrN h (pt (pt h1 52 (gt h1 12 l0 3) l1 3) 58 (gt (pt h1 52 (gt h1 12 l0 3) l1 3) 12 l0 11) l3 (wL ((gt (pt h1 52 (gt h1 12 l0 3) l1 3) 58 (gt (pt h1 52 (gt h1 12 l0 3) l1 3) 12 l0 11) l3) + (gt (pt h1 52 (gt h1 12 l0 3) l1 3) 51 (gt (pt h1 52 (gt h1 12 l0 3) l1 3) 12 l0 2) l1)))) := (frpN (frpN ((frrN h).tr (nf_X12_meets e1))))
      generalize pt (pt h1 52 (gt h1 12 l0 3) l1 3) 58 (gt (pt h1 52 (gt h1 12 l0 3) l1 3) 12 l0 11) l3 (wL ((gt (pt h1 52 (gt h1 12 l0 3) l1 3) 58 (gt (pt h1 52 (gt h1 12 l0 3) l1 3) 12 l0 11) l3) + (gt (pt h1 52 (gt h1 12 l0 3) l1 3) 51 (gt (pt h1 52 (gt h1 12 l0 3) l1 3) 12 l0 2) l1))) = k23 at hF fk23
      exact fk23.tr (n_X12_comesBack_68 hF)
theorem nf_X12_comesBack {l0 l1 l2 l3 : Int} {h : zH} {r : Int} {h' : zH} (hF : F_X12_comesBack l0 l1 l2 l3 h = some (r, h')) : FrN h h' := n_X12_comesBack_0 hF
theorem n_X12_giveBack_11b {ag11 : Int → Int → Int → Int → zH → zO} (hag11 : ∀ (l0 l1 l2 l3 : Int) (h : zH) (r : Int) (h' : zH), ag11 l0 l1 l2 l3 h = some (r, h') → FrN h h') {l0 l1 l2 l3 : Int} {h : zH} {r : Int} {h' : zH} (hF : F_X12_giveBack_11b ag11 l0 l1 l2 l3 h = some (r, h')) : FrN h h' := by
  unfold F_X12_giveBack_11b at hF
  obtain ⟨g1, hF⟩ := zg hF
  by_cases c2 : gt h 12 l0 34 ≤ l3
  · have hF := ip c2 hF
    obtain ⟨g3, hF⟩ := zg hF
    obtain ⟨g4, hF⟩ := zg hF
    by_cases c5 : gt h 76 (gt h 12 l0 36) l1 = 2
    · have hF := ip c5 hF
      obtain ⟨_, rfl⟩ := zr hF
      exact (frrN h)
    · have hF := im c5 hF
      obtain ⟨g6, hF⟩ := zg hF
      obtain ⟨r7, h7, e7, hF⟩ := zb_some hF
      by_cases c8 : r7 = 0
      · have hF := ip c8 hF
        obtain ⟨_, rfl⟩ := zr hF
        exact ((frrN h).tr (nf_X12_comesBack e7))
      · have hF := im c8 hF
        obtain ⟨_, rfl⟩ := zr hF
        exact ((frrN h).tr (nf_X12_comesBack e7))
  · have hF := im c2 hF
    obtain ⟨g9, hF⟩ := zg hF
    obtain ⟨g10, hF⟩ := zg hF
    by_cases c11 : gt h 76 (gt h 12 l0 36) l3 ≠ 2
    · have hF := ip c11 hF
      exact (frrN h).tr (hag11 _ _ _ _ _ _ _ hF)
    · have hF := im c11 hF
      obtain ⟨g12, hF⟩ := zg hF
      obtain ⟨g13, hF⟩ := zg hF
      obtain ⟨g14, hF⟩ := zg hF
      by_cases c15 : gt h 80 (gt h 12 l0 40) (gt h 77 (gt h 12 l0 37) l3) ≠ 0
      · have hF := ip c15 hF
        exact (frrN h).tr (hag11 _ _ _ _ _ _ _ hF)
      · have hF := im c15 hF
        exact (frpN (frrN h)).tr (hag11 _ _ _ _ _ _ _ hF)
theorem n_X12_giveBack_11 : ∀ (n : Nat) (l0 l1 l2 l3 : Int) (h : zH) (r : Int) (h' : zH), F_X12_giveBack_11 n l0 l1 l2 l3 h = some (r, h') → FrN h h'
  | 0, _, _, _, _, _, _, _, hF => by cases hF
  | n + 1, _, _, _, _, _, _, _, hF => n_X12_giveBack_11b (n_X12_giveBack_11 n) hF
theorem n_X12_giveBack_0 {l0 l1 l2 : Int} {h : zH} {r : Int} {h' : zH} (hF : F_X12_giveBack_0 l0 l1 l2 h = some (r, h')) : FrN h h' := by
  unfold F_X12_giveBack_0 at hF
  obtain ⟨g1, hF⟩ := zg hF
  obtain ⟨g2, hF⟩ := zg hF
  obtain ⟨g3, hF⟩ := zg hF
  exact (frpN (frrN h)).tr (n_X12_giveBack_11 _ _ _ _ _ _ _ _ hF)
theorem nf_X12_giveBack {l0 l1 l2 : Int} {h : zH} {r : Int} {h' : zH} (hF : F_X12_giveBack l0 l1 l2 h = some (r, h')) : FrN h h' := n_X12_giveBack_0 hF
theorem n_X12_spend_43b {ag17 : Int → Int → zH → zO} {ag43 : Int → Int → Int → zH → zO} (hag17 : ∀ (l0 l1 : Int) (h : zH) (r : Int) (h' : zH), ag17 l0 l1 h = some (r, h') → FrN h h') (hag43 : ∀ (l0 l1 l2 : Int) (h : zH) (r : Int) (h' : zH), ag43 l0 l1 l2 h = some (r, h') → FrN h h') {l0 l1 l2 : Int} {h : zH} {r : Int} {h' : zH} (hF : F_X12_spend_43b ag17 ag43 l0 l1 l2 h = some (r, h')) : FrN h h' := by
  unfold F_X12_spend_43b at hF
  by_cases c1 : l2 < 0
  · have hF := ip c1 hF
    exact (frrN h).tr (hag17 _ _ _ _ _ hF)
  · have hF := im c1 hF
    obtain ⟨g3, hF⟩ := zg hF
    obtain ⟨r2, h2, e2, hF⟩ := zb_some hF
    obtain ⟨g4, hF⟩ := zg hF
    obtain ⟨g5, hF⟩ := zg hF
    obtain ⟨r6, h6, e6, hF⟩ := zb_some hF
    exact (((frrN h).tr (nf_X12_giveBack e2)).tr (nf_X12_lastOf e6)).tr (hag43 _ _ _ _ _ _ hF)
theorem n_X12_spend_43 {ag17 : Int → Int → zH → zO} (hag17 : ∀ (l0 l1 : Int) (h : zH) (r : Int) (h' : zH), ag17 l0 l1 h = some (r, h') → FrN h h') : ∀ (n : Nat) (l0 l1 l2 : Int) (h : zH) (r : Int) (h' : zH), F_X12_spend_43 ag17 n l0 l1 l2 h = some (r, h') → FrN h h'
  | 0, _, _, _, _, _, _, hF => by cases hF
  | n + 1, _, _, _, _, _, _, hF => n_X12_spend_43b hag17 (n_X12_spend_43 hag17 n) hF
theorem n_X12_spend_17b {ag17 : Int → Int → zH → zO} (hag17 : ∀ (l0 l1 : Int) (h : zH) (r : Int) (h' : zH), ag17 l0 l1 h = some (r, h') → FrN h h') {l0 l1 : Int} {h : zH} {r : Int} {h' : zH} (hF : F_X12_spend_17b ag17 l0 l1 h = some (r, h')) : FrN h h' := by
  unfold F_X12_spend_17b at hF
  by_cases c1 : l1 < 0
  · have hF := ip c1 hF
    obtain ⟨g2, hF⟩ := zg hF
    obtain ⟨_, rfl⟩ := zr hF
    exact (frpN (frrN h))
  · have hF := im c1 hF
    obtain ⟨g3, hF⟩ := zg hF
    obtain ⟨g4, hF⟩ := zg hF
    obtain ⟨g5, hF⟩ := zg hF
    by_cases c6 : gt h 68 (gt h 12 l0 26) l1 ≠ 12
    · have hF := ip c6 hF
      exact (frrN h).tr (hag17 _ _ _ _ _ hF)
    · have hF := im c6 hF
      obtain ⟨g7, hF⟩ := zg hF
      obtain ⟨r8, h8, e8, hF⟩ := zb_some hF
      exact ((frrN h).tr (nf_X12_lastOf e8)).tr (n_X12_spend_43 hag17 _ _ _ _ _ _ _ hF)
theorem n_X12_spend_17 : ∀ (n : Nat) (l0 l1 : Int) (h : zH) (r : Int) (h' : zH), F_X12_spend_17 n l0 l1 h = some (r, h') → FrN h h'
  | 0, _, _, _, _, _, hF => by cases hF
  | n + 1, _, _, _, _, _, hF => n_X12_spend_17b (n_X12_spend_17 n) hF
theorem n_X12_spend_0 {l0 : Int} {h : zH} {r : Int} {h' : zH} (hF : F_X12_spend_0 l0 h = some (r, h')) : FrN h h' := by
  unfold F_X12_spend_0 at hF
  obtain ⟨g1, hF⟩ := zg hF
  exact (frpN (frpN (frrN h))).tr (n_X12_spend_17 _ _ _ _ _ _ hF)
theorem nf_X12_spend {l0 : Int} {h : zH} {r : Int} {h' : zH} (hF : F_X12_spend l0 h = some (r, h')) : FrN h h' := n_X12_spend_0 hF
theorem n_X12_newFailure_0 {l0 l1 l2 l3 : Int} {h : zH} {r : Int} {h' : zH} (hF : F_X12_newFailure_0 l0 l1 l2 l3 h = some (r, h')) : FrN h h' := by
  unfold F_X12_newFailure_0 at hF
  obtain ⟨g1, hF⟩ := zg hF
  obtain ⟨g2, hF⟩ := zg hF
  obtain ⟨g3, hF⟩ := zg hF
  obtain ⟨g4, hF⟩ := zg hF
  obtain ⟨g5, hF⟩ := zg hF
  obtain ⟨g6, hF⟩ := zg hF
  have hF := zl_e hF
  have fk7 : FrN h (pt (pt h 83 (gt h 12 l0 46) (gt h 12 l0 45) l1) 84 (gt (pt h 83 (gt h 12 l0 46) (gt h 12 l0 45) l1) 12 l0 47) (gt h 12 l0 45) (gt (pt h 83 (gt h 12 l0 46) (gt h 12 l0 45) l1) 70 (gt (pt h 83 (gt h 12 l0 46) (gt h 12 l0 45) l1) 12 l0 28) (gt (pt h 83 (gt h 12 l0 46) (gt h 12 l0 45) l1) 12 l0 67))) := (frpN (frpN (frrN h)))
  generalize pt (pt h 83 (gt h 12 l0 46) (gt h 12 l0 45) l1) 84 (gt (pt h 83 (gt h 12 l0 46) (gt h 12 l0 45) l1) 12 l0 47) (gt h 12 l0 45) (gt (pt h 83 (gt h 12 l0 46) (gt h 12 l0 45) l1) 70 (gt (pt h 83 (gt h 12 l0 46) (gt h 12 l0 45) l1) 12 l0 28) (gt (pt h 83 (gt h 12 l0 46) (gt h 12 l0 45) l1) 12 l0 67)) = k7 at hF fk7
  obtain ⟨g8, hF⟩ := zg hF
  obtain ⟨g9, hF⟩ := zg hF
  have hF := zl_e hF
  have fk10 : FrN h (pt (pt k7 85 (gt k7 12 l0 48) (gt h 12 l0 45) l2) 86 (gt (pt k7 85 (gt k7 12 l0 48) (gt h 12 l0 45) l2) 12 l0 49) (gt h 12 l0 45) l3) := (frpN (frpN fk7))
  generalize pt (pt k7 85 (gt k7 12 l0 48) (gt h 12 l0 45) l2) 86 (gt (pt k7 85 (gt k7 12 l0 48) (gt h 12 l0 45) l2) 12 l0 49) (gt h 12 l0 45) l3 = k10 at hF fk10
  obtain ⟨g11, hF⟩ := zg hF
  obtain ⟨g12, hF⟩ := zg hF
  have hF := zl_e hF
  have fk13 : FrN h (pt (pt k10 87 (gt k10 12 l0 50) (gt h 12 l0 45) (-1)) 88 (gt (pt k10 87 (gt k10 12 l0 50) (gt h 12 l0 45) (-1)) 12 l0 51) (gt h 12 l0 45) (-1)) := (frpN (frpN fk10))
  generalize pt (pt k10 87 (gt k10 12 l0 50) (gt h 12 l0 45) (-1)) 88 (gt (pt k10 87 (gt k10 12 l0 50) (gt h 12 l0 45) (-1)) 12 l0 51) (gt h 12 l0 45) (-1) = k13 at hF fk13
  obtain ⟨_, rfl⟩ := zr hF
  exact (frpN fk13)
theorem nf_X12_newFailure {l0 l1 l2 l3 : Int} {h : zH} {r : Int} {h' : zH} (hF : F_X12_newFailure l0 l1 l2 l3 h = some (r, h')) : FrN h h' := n_X12_newFailure_0 hF
theorem n_X12_endScope_139 {l0 : Int} {h : zH} {r : Int} {h' : zH} (hF : F_X12_endScope_139 l0 h = some (r, h')) : FrN h h' := by
  unfold F_X12_endScope_139 at hF
  obtain ⟨g1, hF⟩ := zg hF
  by_cases c2 : gt h 12 l0 60 ≠ 0
  · have hF := ip c2 hF
    obtain ⟨_, rfl⟩ := zr hF
    exact (frrN h)
  · have hF := im c2 hF
    obtain ⟨_, rfl⟩ := zr hF
    exact (frpN (frrN h))
theorem n_X12_endScope_119 {ag28 : Int → Int → Int → zH → zO} (hag28 : ∀ (l0 l1 l2 : Int) (h : zH) (r : Int) (h' : zH), ag28 l0 l1 l2 h = some (r, h') → FrN h h') {l0 l1 : Int} {h : zH} {r : Int} {h' : zH} (hF : F_X12_endScope_119 ag28 l0 l1 h = some (r, h')) : FrN h h' := by
  unfold F_X12_endScope_119 at hF
  obtain ⟨g1, hF⟩ := zg hF
  by_cases c2 : gt h 12 l0 60 = 0
  · have hF := ip c2 hF
    obtain ⟨r3, h3, e3, hF⟩ := zb_some hF
    exact ((frrN h).tr (nf_X12_lastOf e3)).tr (hag28 _ _ _ _ _ _ hF)
  · have hF := im c2 hF
    exact (frrN h).tr (hag28 _ _ _ _ _ _ hF)
theorem n_X12_endScope_28b {ag28 : Int → Int → Int → zH → zO} (hag28 : ∀ (l0 l1 l2 : Int) (h : zH) (r : Int) (h' : zH), ag28 l0 l1 l2 h = some (r, h') → FrN h h') {l0 l1 l2 : Int} {h : zH} {r : Int} {h' : zH} (hF : F_X12_endScope_28b ag28 l0 l1 l2 h = some (r, h')) : FrN h h' := by
  unfold F_X12_endScope_28b at hF
  by_cases c1 : l2 < 0
  · have hF := ip c1 hF
    exact (frrN h).tr (n_X12_endScope_139 hF)
  · have hF := im c1 hF
    obtain ⟨g2, hF⟩ := zg hF
    by_cases c3 : gt h 12 l0 60 ≠ 0
    · have hF := ip c3 hF
      exact (frrN h).tr (n_X12_endScope_139 hF)
    · have hF := im c3 hF
      obtain ⟨r4, h4, e4, hF⟩ := zb_some hF
      by_cases c5 : r4 = 0
      · have hF := ip c5 hF
        exact ((frrN h).tr (nf_X12_giveBack e4)).tr (n_X12_endScope_119 hag28 hF)
      · have hF := im c5 hF
        by_cases c6 : gt h4 12 l0 45 ≠ 16
        · have hF := ip c6 hF
          obtain ⟨g7, hF⟩ := zg hF
          obtain ⟨g8, hF⟩ := zg hF
          obtain ⟨g9, hF⟩ := zg hF
          obtain ⟨g10, hF⟩ := zg hF
          obtain ⟨r11, h11, e11, hF⟩ := zb_some hF
          by_cases c12 : gt h11 12 l0 52 ≠ 3
          · have hF := ip c12 hF
            exact (frpN (frpN (((frrN h).tr (nf_X12_giveBack e4)).tr (nf_X12_newFailure e11)))).tr (n_X12_endScope_119 hag28 hF)
          · have hF := im c12 hF
            obtain ⟨g13, hF⟩ := zg hF
            obtain ⟨g14, hF⟩ := zg hF
            exact (frpN (((frrN h).tr (nf_X12_giveBack e4)).tr (nf_X12_newFailure e11))).tr (n_X12_endScope_119 hag28 hF)
        · have hF := im c6 hF
          obtain ⟨r15, h15, e15, hF⟩ := zb_some hF
          exact (((frrN h).tr (nf_X12_giveBack e4)).tr (nf_X12_spend e15)).tr (n_X12_endScope_119 hag28 hF)
theorem n_X12_endScope_28 : ∀ (n : Nat) (l0 l1 l2 : Int) (h : zH) (r : Int) (h' : zH), F_X12_endScope_28 n l0 l1 l2 h = some (r, h') → FrN h h'
  | 0, _, _, _, _, _, _, hF => by cases hF
  | n + 1, _, _, _, _, _, _, hF => n_X12_endScope_28b (n_X12_endScope_28 n) hF
theorem n_X12_endScope_0 {l0 : Int} {h : zH} {r : Int} {h' : zH} (hF : F_X12_endScope_0 l0 h = some (r, h')) : FrN h h' := by
  unfold F_X12_endScope_0 at hF
  obtain ⟨g1, hF⟩ := zg hF
  obtain ⟨g2, hF⟩ := zg hF
  obtain ⟨g3, hF⟩ := zg hF
  obtain ⟨r4, h4, e4, hF⟩ := zb_some hF
  exact ((frpN (frrN h)).tr (nf_X12_lastOf e4)).tr (n_X12_endScope_28 _ _ _ _ _ _ _ hF)
theorem nf_X12_endScope {l0 : Int} {h : zH} {r : Int} {h' : zH} (hF : F_X12_endScope l0 h = some (r, h')) : FrN h h' := n_X12_endScope_0 hF
theorem n_X12_step_0 {l0 : Int} {h : zH} {r : Int} {h' : zH} (hF : F_X12_step_0 l0 h = some (r, h')) : FrN h h' := by
  unfold F_X12_step_0 at hF
  obtain ⟨g1, hF⟩ := zg hF
  by_cases c2 : gt h 12 l0 55 ≠ 160
  · have hF := ip c2 hF
    obtain ⟨_, rfl⟩ := zr hF
    exact (frpN (frrN h))
  · have hF := im c2 hF
    obtain ⟨r3, h3, e3, hF⟩ := zb_some hF
    obtain ⟨_, rfl⟩ := zr hF
    exact ((frrN h).tr (nf_X12_spend e3))
theorem nf_X12_step {l0 : Int} {h : zH} {r : Int} {h' : zH} (hF : F_X12_step l0 h = some (r, h')) : FrN h h' := n_X12_step_0 hF
theorem n_X12_endBlock_0 {l0 l1 : Int} {h : zH} {r : Int} {h' : zH} (hF : F_X12_endBlock_0 l0 l1 h = some (r, h')) : FrN h h' := by
  unfold F_X12_endBlock_0 at hF
  obtain ⟨g1, hF⟩ := zg hF
  obtain ⟨r2, h2, e2, hF⟩ := zb_some hF
  obtain ⟨g3, hF⟩ := zg hF
  obtain ⟨g4, hF⟩ := zg hF
  by_cases c5 : gt h2 68 (gt h2 12 l0 26) (wI ((gt h 12 l0 25) - 1)) ≠ 12
  · have hF := ip c5 hF
    by_cases c6 : gt h2 68 (gt h2 12 l0 26) (wI ((gt h 12 l0 25) - 1)) ≠ 11
    · have hF := ip c6 hF
      obtain ⟨g7, hF⟩ := zg hF
      by_cases c8 : gt h2 70 (gt h2 12 l0 28) (wI ((gt h 12 l0 25) - 1)) ≠ 2
      · have hF := ip c8 hF
        obtain ⟨g9, hF⟩ := zg hF
        by_cases c10 : gt (pt h2 12 l0 52 0) 70 (gt (pt h2 12 l0 52 0) 12 l0 28) (wI ((gt h 12 l0 25) - 1)) ≠ 2
        · have hF := ip c10 hF
          have hF := zl_e hF
          have fk11 : FrN h (pt (pt (pt h2 12 l0 52 0) 12 l0 53 (gt (pt h2 12 l0 52 0) 12 l0 53)) 12 l0 25 (wI ((gt (pt (pt h2 12 l0 52 0) 12 l0 53 (gt (pt h2 12 l0 52 0) 12 l0 53)) 12 l0 25) - 1))) := (frpN (frpN (frpN ((frrN h).tr (nf_X12_goTo e2)))))
          generalize pt (pt (pt h2 12 l0 52 0) 12 l0 53 (gt (pt h2 12 l0 52 0) 12 l0 53)) 12 l0 25 (wI ((gt (pt (pt h2 12 l0 52 0) 12 l0 53 (gt (pt h2 12 l0 52 0) 12 l0 53)) 12 l0 25) - 1)) = k11 at hF fk11
          obtain ⟨_, rfl⟩ := zr hF
          exact fk11
        · have hF := im c10 hF
          obtain ⟨g12, hF⟩ := zg hF
          have hF := zl_e hF
          have fk13 : FrN h (pt (pt (pt h2 12 l0 52 0) 12 l0 53 (gt (pt h2 12 l0 52 0) 73 (gt (pt h2 12 l0 52 0) 12 l0 31) (wI ((gt h 12 l0 25) - 1)))) 12 l0 25 (wI ((gt (pt (pt h2 12 l0 52 0) 12 l0 53 (gt (pt h2 12 l0 52 0) 73 (gt (pt h2 12 l0 52 0) 12 l0 31) (wI ((gt h 12 l0 25) - 1)))) 12 l0 25) - 1))) := (frpN (frpN (frpN ((frrN h).tr (nf_X12_goTo e2)))))
          generalize pt (pt (pt h2 12 l0 52 0) 12 l0 53 (gt (pt h2 12 l0 52 0) 73 (gt (pt h2 12 l0 52 0) 12 l0 31) (wI ((gt h 12 l0 25) - 1)))) 12 l0 25 (wI ((gt (pt (pt h2 12 l0 52 0) 12 l0 53 (gt (pt h2 12 l0 52 0) 73 (gt (pt h2 12 l0 52 0) 12 l0 31) (wI ((gt h 12 l0 25) - 1)))) 12 l0 25) - 1)) = k13 at hF fk13
          obtain ⟨_, rfl⟩ := zr hF
          exact fk13
      · have hF := im c8 hF
        obtain ⟨g14, hF⟩ := zg hF
        obtain ⟨g15, hF⟩ := zg hF
        by_cases c16 : gt (pt h2 12 l0 52 (gt h2 71 (gt h2 12 l0 29) (wI ((gt h 12 l0 25) - 1)))) 70 (gt (pt h2 12 l0 52 (gt h2 71 (gt h2 12 l0 29) (wI ((gt h 12 l0 25) - 1)))) 12 l0 28) (wI ((gt h 12 l0 25) - 1)) ≠ 2
        · have hF := ip c16 hF
          have hF := zl_e hF
          have fk17 : FrN h (pt (pt h2 12 l0 52 (gt h2 71 (gt h2 12 l0 29) (wI ((gt h 12 l0 25) - 1)))) 12 l0 53 (gt (pt h2 12 l0 52 (gt h2 71 (gt h2 12 l0 29) (wI ((gt h 12 l0 25) - 1)))) 12 l0 53)) := (frpN (frpN ((frrN h).tr (nf_X12_goTo e2))))
          generalize pt (pt h2 12 l0 52 (gt h2 71 (gt h2 12 l0 29) (wI ((gt h 12 l0 25) - 1)))) 12 l0 53 (gt (pt h2 12 l0 52 (gt h2 71 (gt h2 12 l0 29) (wI ((gt h 12 l0 25) - 1)))) 12 l0 53) = k17 at hF fk17
          obtain ⟨_, rfl⟩ := zr hF
          exact (frpN fk17)
        · have hF := im c16 hF
          obtain ⟨g18, hF⟩ := zg hF
          have hF := zl_e hF
          have fk19 : FrN h (pt (pt h2 12 l0 52 (gt h2 71 (gt h2 12 l0 29) (wI ((gt h 12 l0 25) - 1)))) 12 l0 53 (gt (pt h2 12 l0 52 (gt h2 71 (gt h2 12 l0 29) (wI ((gt h 12 l0 25) - 1)))) 73 (gt (pt h2 12 l0 52 (gt h2 71 (gt h2 12 l0 29) (wI ((gt h 12 l0 25) - 1)))) 12 l0 31) (wI ((gt h 12 l0 25) - 1)))) := (frpN (frpN ((frrN h).tr (nf_X12_goTo e2))))
          generalize pt (pt h2 12 l0 52 (gt h2 71 (gt h2 12 l0 29) (wI ((gt h 12 l0 25) - 1)))) 12 l0 53 (gt (pt h2 12 l0 52 (gt h2 71 (gt h2 12 l0 29) (wI ((gt h 12 l0 25) - 1)))) 73 (gt (pt h2 12 l0 52 (gt h2 71 (gt h2 12 l0 29) (wI ((gt h 12 l0 25) - 1)))) 12 l0 31) (wI ((gt h 12 l0 25) - 1))) = k19 at hF fk19
          obtain ⟨_, rfl⟩ := zr hF
          exact (frpN fk19)
    · have hF := im c6 hF
      obtain ⟨g20, hF⟩ := zg hF
      by_cases c21 : gt h2 70 (gt h2 12 l0 28) (wI ((gt h 12 l0 25) - 1)) ≤ 0
      · have hF := ip c21 hF
        obtain ⟨_, rfl⟩ := zr hF
        exact (frpN ((frrN h).tr (nf_X12_goTo e2)))
      · have hF := im c21 hF
        obtain ⟨r22, h22, e22, hF⟩ := zb_some hF
        by_cases c23 : r22 = 0
        · have hF := ip c23 hF
          obtain ⟨_, rfl⟩ := zr hF
          exact ((frpN ((frrN h).tr (nf_X12_goTo e2))).tr (nf_X12_step e22))
        · have hF := im c23 hF
          obtain ⟨g24, hF⟩ := zg hF
          obtain ⟨r25, h25, e25, hF⟩ := zb_some hF
          obtain ⟨_, rfl⟩ := zr hF
          exact (((frpN ((frrN h).tr (nf_X12_goTo e2))).tr (nf_X12_step e22)).tr (nf_X12_goTo e25))
  · have hF := im c5 hF
    obtain ⟨r26, h26, e26, hF⟩ := zb_some hF
    obtain ⟨_, rfl⟩ := zr hF
    exact (((frrN h).tr (nf_X12_goTo e2)).tr (nf_X12_endScope e26))
theorem nf_X12_endBlock {l0 l1 : Int} {h : zH} {r : Int} {h' : zH} (hF : F_X12_endBlock l0 l1 h = some (r, h')) : FrN h h' := n_X12_endBlock_0 hF
theorem n_X12_behind_60 {ag10 : Int → Int → Int → Int → Int → zH → zO} (hag10 : ∀ (l0 l1 l3 l4 l5 : Int) (h : zH) (r : Int) (h' : zH), ag10 l0 l1 l3 l4 l5 h = some (r, h') → FrN h h') {l0 l1 l3 l4 l5 l6 : Int} {h : zH} {r : Int} {h' : zH} (hF : F_X12_behind_60 ag10 l0 l1 l3 l4 l5 l6 h = some (r, h')) : FrN h h' := by
  unfold F_X12_behind_60 at hF
  obtain ⟨r1, h1, e1, hF⟩ := zb_some hF
  by_cases c2 : r1 = 0
  · have hF := ip c2 hF
    by_cases c3 : l6 ≠ 16
    · have hF := ip c3 hF
      exact ((frrN h).tr (nf_X12_begins e1)).tr (hag10 _ _ _ _ _ _ _ _ hF)
    · have hF := im c3 hF
      exact ((frrN h).tr (nf_X12_begins e1)).tr (hag10 _ _ _ _ _ _ _ _ hF)
  · have hF := im c2 hF
    exact ((frrN h).tr (nf_X12_begins e1)).tr (hag10 _ _ _ _ _ _ _ _ hF)
theorem n_X12_behind_54 {ag10 : Int → Int → Int → Int → Int → zH → zO} (hag10 : ∀ (l0 l1 l3 l4 l5 : Int) (h : zH) (r : Int) (h' : zH), ag10 l0 l1 l3 l4 l5 h = some (r, h') → FrN h h') {l0 l1 l3 l4 : Int} {h : zH} {r : Int} {h' : zH} (hF : F_X12_behind_54 ag10 l0 l1 l3 l4 h = some (r, h')) : FrN h h' := by
  unfold F_X12_behind_54 at hF
  exact (frrN h).tr (hag10 _ _ _ _ _ _ _ _ hF)
theorem n_X12_behind_10b {ag10 : Int → Int → Int → Int → Int → zH → zO} (hag10 : ∀ (l0 l1 l3 l4 l5 : Int) (h : zH) (r : Int) (h' : zH), ag10 l0 l1 l3 l4 l5 h = some (r, h') → FrN h h') {l0 l1 l3 l4 l5 : Int} {h : zH} {r : Int} {h' : zH} (hF : F_X12_behind_10b ag10 l0 l1 l3 l4 l5 h = some (r, h')) : FrN h h' := by
  unfold F_X12_behind_10b at hF
  by_cases c1 : l5 = 0
  · have hF := ip c1 hF
    obtain ⟨_, rfl⟩ := zr hF
    exact (frrN h)
  · have hF := im c1 hF
    obtain ⟨g2, hF⟩ := zg hF
    obtain ⟨g3, hF⟩ := zg hF
    obtain ⟨g4, hF⟩ := zg hF
    by_cases c5 : l3 ≠ 0
    · have hF := ip c5 hF
      exact (frrN h).tr (n_X12_behind_60 hag10 hF)
    · have hF := im c5 hF
      by_cases c6 : gt h 63 (gt h 12 l0 18) (wI ((wI (40 * l1)) + l4)) = 16
      · have hF := ip c6 hF
        exact (frrN h).tr (n_X12_behind_54 hag10 hF)
      · have hF := im c6 hF
        by_cases c7 : gt h 63 (gt h 12 l0 18) (wI ((wI (40 * l1)) + l4)) = 14
        · have hF := ip c7 hF
          exact (frrN h).tr (n_X12_behind_54 hag10 hF)
        · have hF := im c7 hF
          by_cases c8 : gt h 63 (gt h 12 l0 18) (wI ((wI (40 * l1)) + l4)) ≠ 15
          · have hF := ip c8 hF
            exact (frrN h).tr (n_X12_behind_60 hag10 hF)
          · have hF := im c8 hF
            exact (frrN h).tr (n_X12_behind_54 hag10 hF)
theorem n_X12_behind_10 : ∀ (n : Nat) (l0 l1 l3 l4 l5 : Int) (h : zH) (r : Int) (h' : zH), F_X12_behind_10 n l0 l1 l3 l4 l5 h = some (r, h') → FrN h h'
  | 0, _, _, _, _, _, _, _, _, hF => by cases hF
  | n + 1, _, _, _, _, _, _, _, _, hF => n_X12_behind_10b (n_X12_behind_10 n) hF
theorem n_X12_behind_0 {l0 l1 l2 : Int} {h : zH} {r : Int} {h' : zH} (hF : F_X12_behind_0 l0 l1 l2 h = some (r, h')) : FrN h h' := by
  unfold F_X12_behind_0 at hF
  exact (frrN h).tr (n_X12_behind_10 _ _ _ _ _ _ _ _ _ hF)
theorem nf_X12_behind {l0 l1 l2 : Int} {h : zH} {r : Int} {h' : zH} (hF : F_X12_behind l0 l1 l2 h = some (r, h')) : FrN h h' := n_X12_behind_0 hF
theorem n_X12_finishOf_7b {ag7 : Int → Int → Int → zH → zO} (hag7 : ∀ (l0 l1 l3 : Int) (h : zH) (r : Int) (h' : zH), ag7 l0 l1 l3 h = some (r, h') → FrN h h') {l0 l1 l3 : Int} {h : zH} {r : Int} {h' : zH} (hF : F_X12_finishOf_7b ag7 l0 l1 l3 h = some (r, h')) : FrN h h' := by
  unfold F_X12_finishOf_7b at hF
  obtain ⟨g1, hF⟩ := zg hF
  obtain ⟨g2, hF⟩ := zg hF
  obtain ⟨g3, hF⟩ := zg hF
  by_cases c4 : gt h 63 (gt h 12 l0 18) (wI ((wI (40 * l1)) + l3)) ≠ 14
  · have hF := ip c4 hF
    by_cases c5 : gt h 63 (gt h 12 l0 18) (wI ((wI (40 * l1)) + l3)) ≠ 15
    · have hF := ip c5 hF
      obtain ⟨_, rfl⟩ := zr hF
      exact (frrN h)
    · have hF := im c5 hF
      obtain ⟨_, rfl⟩ := zr hF
      exact (frrN h)
  · have hF := im c4 hF
    obtain ⟨r6, h6, e6, hF⟩ := zb_some hF
    exact ((frrN h).tr (nf_X12_behind e6)).tr (hag7 _ _ _ _ _ _ hF)
theorem n_X12_finishOf_7 : ∀ (n : Nat) (l0 l1 l3 : Int) (h : zH) (r : Int) (h' : zH), F_X12_finishOf_7 n l0 l1 l3 h = some (r, h') → FrN h h'
  | 0, _, _, _, _, _, _, hF => by cases hF
  | n + 1, _, _, _, _, _, _, hF => n_X12_finishOf_7b (n_X12_finishOf_7 n) hF
theorem n_X12_finishOf_0 {l0 l1 l2 : Int} {h : zH} {r : Int} {h' : zH} (hF : F_X12_finishOf_0 l0 l1 l2 h = some (r, h')) : FrN h h' := by
  unfold F_X12_finishOf_0 at hF
  obtain ⟨g2, hF⟩ := zg hF
  obtain ⟨r1, h1, e1, hF⟩ := zb_some hF
  exact ((frrN h).tr (nf_X12_behind e1)).tr (n_X12_finishOf_7 _ _ _ _ _ _ _ hF)
theorem nf_X12_finishOf {l0 l1 l2 : Int} {h : zH} {r : Int} {h' : zH} (hF : F_X12_finishOf l0 l1 l2 h = some (r, h')) : FrN h h' := n_X12_finishOf_0 hF
theorem n_X12_endOf_7b {ag7 : Int → Int → Int → zH → zO} (hag7 : ∀ (l0 l1 l3 : Int) (h : zH) (r : Int) (h' : zH), ag7 l0 l1 l3 h = some (r, h') → FrN h h') {l0 l1 l3 : Int} {h : zH} {r : Int} {h' : zH} (hF : F_X12_endOf_7b ag7 l0 l1 l3 h = some (r, h')) : FrN h h' := by
  unfold F_X12_endOf_7b at hF
  obtain ⟨g1, hF⟩ := zg hF
  obtain ⟨g2, hF⟩ := zg hF
  obtain ⟨g3, hF⟩ := zg hF
  by_cases c4 : gt h 63 (gt h 12 l0 18) (wI ((wI (40 * l1)) + l3)) = 16
  · have hF := ip c4 hF
    obtain ⟨_, rfl⟩ := zr hF
    exact (frrN h)
  · have hF := im c4 hF
    obtain ⟨r5, h5, e5, hF⟩ := zb_some hF
    exact ((frrN h).tr (nf_X12_behind e5)).tr (hag7 _ _ _ _ _ _ hF)
theorem n_X12_endOf_7 : ∀ (n : Nat) (l0 l1 l3 : Int) (h : zH) (r : Int) (h' : zH), F_X12_endOf_7 n l0 l1 l3 h = some (r, h') → FrN h h'
  | 0, _, _, _, _, _, _, hF => by cases hF
  | n + 1, _, _, _, _, _, _, hF => n_X12_endOf_7b (n_X12_endOf_7 n) hF
theorem n_X12_endOf_0 {l0 l1 l2 : Int} {h : zH} {r : Int} {h' : zH} (hF : F_X12_endOf_0 l0 l1 l2 h = some (r, h')) : FrN h h' := by
  unfold F_X12_endOf_0 at hF
  obtain ⟨g2, hF⟩ := zg hF
  obtain ⟨r1, h1, e1, hF⟩ := zb_some hF
  exact ((frrN h).tr (nf_X12_behind e1)).tr (n_X12_endOf_7 _ _ _ _ _ _ _ hF)
theorem nf_X12_endOf {l0 l1 l2 : Int} {h : zH} {r : Int} {h' : zH} (hF : F_X12_endOf l0 l1 l2 h = some (r, h')) : FrN h h' := n_X12_endOf_0 hF
theorem n_X12_leaveTry_100 {l0 l1 l2 : Int} {h : zH} {r : Int} {h' : zH} (hF : F_X12_leaveTry_100 l0 l1 l2 h = some (r, h')) : FrN h h' := by
  unfold F_X12_leaveTry_100 at hF
  obtain ⟨g1, hF⟩ := zg hF
  by_cases c2 : gt (pt h 12 l0 25 (wI ((gt h 12 l0 25) - 1))) 12 l0 52 ≠ 0
  · have hF := ip c2 hF
    obtain ⟨_, rfl⟩ := zr hF
    exact (frpN (frrN h))
  · have hF := im c2 hF
    obtain ⟨g3, hF⟩ := zg hF
    obtain ⟨g4, hF⟩ := zg hF
    obtain ⟨r5, h5, e5, hF⟩ := zb_some hF
    obtain ⟨r6, h6, e6, hF⟩ := zb_some hF
    obtain ⟨_, rfl⟩ := zr hF
    exact (((frpN (frrN h)).tr (nf_X12_endOf e5)).tr (nf_X12_goTo e6))
theorem n_X12_leaveTry_0 {l0 : Int} {h : zH} {r : Int} {h' : zH} (hF : F_X12_leaveTry_0 l0 h = some (r, h')) : FrN h h' := by
  unfold F_X12_leaveTry_0 at hF
  obtain ⟨g1, hF⟩ := zg hF
  obtain ⟨g2, hF⟩ := zg hF
  obtain ⟨g3, hF⟩ := zg hF
  obtain ⟨g4, hF⟩ := zg hF
  obtain ⟨g5, hF⟩ := zg hF
  obtain ⟨r6, h6, e6, hF⟩ := zb_some hF
  obtain ⟨g7, hF⟩ := zg hF
  by_cases c8 : 2 ≤ gt h6 70 (gt h6 12 l0 28) (wI ((gt h 12 l0 25) - 1))
  · have hF := ip c8 hF
    exact ((frrN h).tr (nf_X12_finishOf e6)).tr (n_X12_leaveTry_100 hF)
  · have hF := im c8 hF
    by_cases c9 : r6 < 0
    · have hF := ip c9 hF
      exact ((frrN h).tr (nf_X12_finishOf e6)).tr (n_X12_leaveTry_100 hF)
    · have hF := im c9 hF
      obtain ⟨g10, hF⟩ := zg hF
      obtain ⟨g11, hF⟩ := zg hF
      have hF := zl_e hF
      have fk12 : FrN h (pt (pt h6 71 (gt h6 12 l0 29) (wI ((gt h 12 l0 25) - 1)) (gt h6 12 l0 52)) 73 (gt (pt h6 71 (gt h6 12 l0 29) (wI ((gt h 12 l0 25) - 1)) (gt h6 12 l0 52)) 12 l0 31) (wI ((gt h 12 l0 25) - 1)) (gt (pt h6 71 (gt h6 12 l0 29) (wI ((gt h 12 l0 25) - 1)) (gt h6 12 l0 52)) 12 l0 53)) := (frpN (frpN ((frrN h).tr (nf_X12_finishOf e6))))
      generalize pt (pt h6 71 (gt h6 12 l0 29) (wI ((gt h 12 l0 25) - 1)) (gt h6 12 l0 52)) 73 (gt (pt h6 71 (gt h6 12 l0 29) (wI ((gt h 12 l0 25) - 1)) (gt h6 12 l0 52)) 12 l0 31) (wI ((gt h 12 l0 25) - 1)) (gt (pt h6 71 (gt h6 12 l0 29) (wI ((gt h 12 l0 25) - 1)) (gt h6 12 l0 52)) 12 l0 53) = k12 at hF fk12
      obtain ⟨g13, hF⟩ := zg hF
      obtain ⟨r14, h14, e14, hF⟩ := zb_some hF
      by_cases c15 : r14 = 0
      · have hF := ip c15 hF
        obtain ⟨_, rfl⟩ := zr hF
        exact ((frpN (frpN fk12)).tr (nf_X12_step e14))
      · have hF := im c15 hF
        obtain ⟨g16, hF⟩ := zg hF
        obtain ⟨g17, hF⟩ := zg hF
        obtain ⟨r18, h18, e18, hF⟩ := zb_some hF
        obtain ⟨_, rfl⟩ := zr hF
        exact ((frpN ((frpN (frpN fk12)).tr (nf_X12_step e14))).tr (nf_X12_goTo e18))
theorem nf_X12_leaveTry {l0 : Int} {h : zH} {r : Int} {h' : zH} (hF : F_X12_leaveTry l0 h = some (r, h')) : FrN h h' := n_X12_leaveTry_0 hF
theorem n_X12_fail_0 {l0 l1 l2 l3 : Int} {h : zH} {r : Int} {h' : zH} (hF : F_X12_fail_0 l0 l1 l2 l3 h = some (r, h')) : FrN h h' := by
  unfold F_X12_fail_0 at hF
  obtain ⟨g1, hF⟩ := zg hF
  by_cases c2 : gt h 12 l0 45 ≠ 16
  · have hF := ip c2 hF
    obtain ⟨r3, h3, e3, hF⟩ := zb_some hF
    obtain ⟨_, rfl⟩ := zr hF
    exact (frpN (frpN ((frrN h).tr (nf_X12_newFailure e3))))
  · have hF := im c2 hF
    obtain ⟨r4, h4, e4, hF⟩ := zb_some hF
    obtain ⟨_, rfl⟩ := zr hF
    exact ((frrN h).tr (nf_X12_spend e4))
theorem nf_X12_fail {l0 l1 l2 l3 : Int} {h : zH} {r : Int} {h' : zH} (hF : F_X12_fail l0 l1 l2 l3 h = some (r, h')) : FrN h h' := n_X12_fail_0 hF
theorem n_X12_innermost_9b {ag9 : Int → Int → Int → zH → zO} (hag9 : ∀ (l0 l2 l3 : Int) (h : zH) (r : Int) (h' : zH), ag9 l0 l2 l3 h = some (r, h') → FrN h h') {l0 l2 l3 : Int} {h : zH} {r : Int} {h' : zH} (hF : F_X12_innermost_9b ag9 l0 l2 l3 h = some (r, h')) : FrN h h' := by
  unfold F_X12_innermost_9b at hF
  by_cases c1 : l3 < 0
  · have hF := ip c1 hF
    obtain ⟨_, rfl⟩ := zr hF
    exact (frrN h)
  · have hF := im c1 hF
    obtain ⟨g2, hF⟩ := zg hF
    obtain ⟨g3, hF⟩ := zg hF
    obtain ⟨g4, hF⟩ := zg hF
    by_cases c5 : gt h 68 (gt h 12 l0 26) l3 ≠ 12
    · have hF := ip c5 hF
      exact (frrN h).tr (hag9 _ _ _ _ _ _ hF)
    · have hF := im c5 hF
      by_cases c6 : l2 ≠ 0
      · have hF := ip c6 hF
        exact (frrN h).tr (hag9 _ _ _ _ _ _ hF)
      · have hF := im c6 hF
        obtain ⟨g7, hF⟩ := zg hF
        obtain ⟨_, rfl⟩ := zr hF
        exact (frrN h)
theorem n_X12_innermost_9 : ∀ (n : Nat) (l0 l2 l3 : Int) (h : zH) (r : Int) (h' : zH), F_X12_innermost_9 n l0 l2 l3 h = some (r, h') → FrN h h'
  | 0, _, _, _, _, _, _, hF => by cases hF
  | n + 1, _, _, _, _, _, _, hF => n_X12_innermost_9b (n_X12_innermost_9 n) hF
theorem n_X12_innermost_0 {l0 l1 : Int} {h : zH} {r : Int} {h' : zH} (hF : F_X12_innermost_0 l0 l1 h = some (r, h')) : FrN h h' := by
  unfold F_X12_innermost_0 at hF
  obtain ⟨g1, hF⟩ := zg hF
  exact (frrN h).tr (n_X12_innermost_9 _ _ _ _ _ _ _ hF)
theorem nf_X12_innermost {l0 l1 : Int} {h : zH} {r : Int} {h' : zH} (hF : F_X12_innermost l0 l1 h = some (r, h')) : FrN h h' := n_X12_innermost_0 hF
theorem n_X12_newLoan_0 {l0 l1 l2 l3 : Int} {h : zH} {r : Int} {h' : zH} (hF : F_X12_newLoan_0 l0 l1 l2 l3 h = some (r, h')) : FrN h h' := by
  unfold F_X12_newLoan_0 at hF
  obtain ⟨g1, hF⟩ := zg hF
  obtain ⟨g2, hF⟩ := zg hF
  obtain ⟨g3, hF⟩ := zg hF
  obtain ⟨g4, hF⟩ := zg hF
  have hF := zl_e hF
  have fk5 : FrN h (pt (pt h 75 (gt h 12 l0 35) (gt h 12 l0 34) l1) 76 (gt (pt h 75 (gt h 12 l0 35) (gt h 12 l0 34) l1) 12 l0 36) (gt h 12 l0 34) l2) := (frpN (frpN (frrN h)))
  generalize pt (pt h 75 (gt h 12 l0 35) (gt h 12 l0 34) l1) 76 (gt (pt h 75 (gt h 12 l0 35) (gt h 12 l0 34) l1) 12 l0 36) (gt h 12 l0 34) l2 = k5 at hF fk5
  obtain ⟨g6, hF⟩ := zg hF
  obtain ⟨g7, hF⟩ := zg hF
  have hF := zl_e hF
  have fk8 : FrN h (pt (pt k5 77 (gt k5 12 l0 37) (gt h 12 l0 34) l3) 80 (gt (pt k5 77 (gt k5 12 l0 37) (gt h 12 l0 34) l3) 12 l0 40) (gt h 12 l0 34) 1) := (frpN (frpN fk5))
  generalize pt (pt k5 77 (gt k5 12 l0 37) (gt h 12 l0 34) l3) 80 (gt (pt k5 77 (gt k5 12 l0 37) (gt h 12 l0 34) l3) 12 l0 40) (gt h 12 l0 34) 1 = k8 at hF fk8
  obtain ⟨r9, h9, e9, hF⟩ := zb_some hF
  obtain ⟨g10, hF⟩ := zg hF
  obtain ⟨g11, hF⟩ := zg hF
  have hF := zl_e hF
  have fk12 : FrN h (pt (pt h9 78 (gt k8 12 l0 38) (gt h 12 l0 34) r9) 79 (gt (pt h9 78 (gt k8 12 l0 38) (gt h 12 l0 34) r9) 12 l0 39) (gt h 12 l0 34) (gt (pt h9 78 (gt k8 12 l0 38) (gt h 12 l0 34) r9) 12 l0 43)) := (frpN (frpN (fk8.tr (nf_X12_innermost e9))))
  generalize pt (pt h9 78 (gt k8 12 l0 38) (gt h 12 l0 34) r9) 79 (gt (pt h9 78 (gt k8 12 l0 38) (gt h 12 l0 34) r9) 12 l0 39) (gt h 12 l0 34) (gt (pt h9 78 (gt k8 12 l0 38) (gt h 12 l0 34) r9) 12 l0 43) = k12 at hF fk12
  have hF := zl_e hF
  have fk13 : FrN h (pt (pt k12 12 l0 43 (wI ((gt k12 12 l0 43) + 1))) 12 l0 34 (wI ((gt (pt k12 12 l0 43 (wI ((gt k12 12 l0 43) + 1))) 12 l0 34) + 1))) := (frpN (frpN fk12))
  generalize pt (pt k12 12 l0 43 (wI ((gt k12 12 l0 43) + 1))) 12 l0 34 (wI ((gt (pt k12 12 l0 43 (wI ((gt k12 12 l0 43) + 1))) 12 l0 34) + 1)) = k13 at hF fk13
  by_cases c14 : l2 = 2
  · have hF := ip c14 hF
    obtain ⟨_, rfl⟩ := zr hF
    exact (frpN fk13)
  · have hF := im c14 hF
    obtain ⟨g15, hF⟩ := zg hF
    obtain ⟨g16, hF⟩ := zg hF
    obtain ⟨_, rfl⟩ := zr hF
    exact (frpN (frpN fk13))
theorem nf_X12_newLoan {l0 l1 l2 l3 : Int} {h : zH} {r : Int} {h' : zH} (hF : F_X12_newLoan l0 l1 l2 l3 h = some (r, h')) : FrN h h' := n_X12_newLoan_0 hF
theorem n_X12_trace_4b {ag4 : Int → Int → Int → Int → zH → zO} (hag4 : ∀ (l0 l1 l2 l3 : Int) (h : zH) (r : Int) (h' : zH), ag4 l0 l1 l2 l3 h = some (r, h') → FrN h h') {l0 l1 l2 l3 : Int} {h : zH} {r : Int} {h' : zH} (hF : F_X12_trace_4b ag4 l0 l1 l2 l3 h = some (r, h')) : FrN h h' := by
  unfold F_X12_trace_4b at hF
  obtain ⟨g1, hF⟩ := zg hF
  by_cases c2 : gt h 12 l0 25 ≤ l3
  · have hF := ip c2 hF
    obtain ⟨g3, hF⟩ := zg hF
    obtain ⟨g4, hF⟩ := zg hF
    obtain ⟨_, rfl⟩ := zr hF
    exact (frpN (frrN h))
  · have hF := im c2 hF
    obtain ⟨g5, hF⟩ := zg hF
    obtain ⟨g6, hF⟩ := zg hF
    by_cases c7 : gt h 68 (gt h 12 l0 26) l3 ≠ 17
    · have hF := ip c7 hF
      exact (frrN h).tr (hag4 _ _ _ _ _ _ _ hF)
    · have hF := im c7 hF
      obtain ⟨g8, hF⟩ := zg hF
      obtain ⟨g9, hF⟩ := zg hF
      obtain ⟨g10, hF⟩ := zg hF
      obtain ⟨g11, hF⟩ := zg hF
      obtain ⟨g12, hF⟩ := zg hF
      obtain ⟨g13, hF⟩ := zg hF
      have hF := zl_e hF
      have fk14 : FrN h (pt (pt h 82 (gt h 12 l0 42) (wI ((wI (20 * l1)) + (wI (2 * l2)))) (gt h 70 (gt h 12 l0 28) l3)) 82 (gt (pt h 82 (gt h 12 l0 42) (wI ((wI (20 * l1)) + (wI (2 * l2)))) (gt h 70 (gt h 12 l0 28) l3)) 12 l0 42) (wI ((wI ((wI (20 * l1)) + (wI (2 * l2)))) + 1)) (gt (pt h 82 (gt h 12 l0 42) (wI ((wI (20 * l1)) + (wI (2 * l2)))) (gt h 70 (gt h 12 l0 28) l3)) 73 (gt (pt h 82 (gt h 12 l0 42) (wI ((wI (20 * l1)) + (wI (2 * l2)))) (gt h 70 (gt h 12 l0 28) l3)) 12 l0 31) l3)) := (frpN (frpN (frrN h)))
      generalize pt (pt h 82 (gt h 12 l0 42) (wI ((wI (20 * l1)) + (wI (2 * l2)))) (gt h 70 (gt h 12 l0 28) l3)) 82 (gt (pt h 82 (gt h 12 l0 42) (wI ((wI (20 * l1)) + (wI (2 * l2)))) (gt h 70 (gt h 12 l0 28) l3)) 12 l0 42) (wI ((wI ((wI (20 * l1)) + (wI (2 * l2)))) + 1)) (gt (pt h 82 (gt h 12 l0 42) (wI ((wI (20 * l1)) + (wI (2 * l2)))) (gt h 70 (gt h 12 l0 28) l3)) 73 (gt (pt h 82 (gt h 12 l0 42) (wI ((wI (20 * l1)) + (wI (2 * l2)))) (gt h 70 (gt h 12 l0 28) l3)) 12 l0 31) l3) = k14 at hF fk14
      exact fk14.tr (hag4 _ _ _ _ _ _ _ hF)
theorem n_X12_trace_4 : ∀ (n : Nat) (l0 l1 l2 l3 : Int) (h : zH) (r : Int) (h' : zH), F_X12_trace_4 n l0 l1 l2 l3 h = some (r, h') → FrN h h'
  | 0, _, _, _, _, _, _, _, hF => by cases hF
  | n + 1, _, _, _, _, _, _, _, hF => n_X12_trace_4b (n_X12_trace_4 n) hF
theorem n_X12_trace_0 {l0 l1 : Int} {h : zH} {r : Int} {h' : zH} (hF : F_X12_trace_0 l0 l1 h = some (r, h')) : FrN h h' := by
  unfold F_X12_trace_0 at hF
  exact (frrN h).tr (n_X12_trace_4 _ _ _ _ _ _ _ _ hF)
theorem nf_X12_trace {l0 l1 : Int} {h : zH} {r : Int} {h' : zH} (hF : F_X12_trace l0 l1 h = some (r, h')) : FrN h h' := n_X12_trace_0 hF
theorem n_X12_hasOpen_51 {ag6 : Int → Int → Int → Int → zH → zO} (hag6 : ∀ (l0 l1 l2 l3 : Int) (h : zH) (r : Int) (h' : zH), ag6 l0 l1 l2 l3 h = some (r, h') → FrN h h') {l0 l1 l3 : Int} {h : zH} {r : Int} {h' : zH} (hF : F_X12_hasOpen_51 ag6 l0 l1 l3 h = some (r, h')) : FrN h h' := by
  unfold F_X12_hasOpen_51 at hF
  exact (frrN h).tr (hag6 _ _ _ _ _ _ _ hF)
theorem n_X12_hasOpen_47 {ag6 : Int → Int → Int → Int → zH → zO} (hag6 : ∀ (l0 l1 l2 l3 : Int) (h : zH) (r : Int) (h' : zH), ag6 l0 l1 l2 l3 h = some (r, h') → FrN h h') {l0 l1 l3 : Int} {h : zH} {r : Int} {h' : zH} (hF : F_X12_hasOpen_47 ag6 l0 l1 l3 h = some (r, h')) : FrN h h' := by
  unfold F_X12_hasOpen_47 at hF
  exact (frrN h).tr (hag6 _ _ _ _ _ _ _ hF)
theorem n_X12_hasOpen_6b {ag6 : Int → Int → Int → Int → zH → zO} (hag6 : ∀ (l0 l1 l2 l3 : Int) (h : zH) (r : Int) (h' : zH), ag6 l0 l1 l2 l3 h = some (r, h') → FrN h h') {l0 l1 l2 l3 : Int} {h : zH} {r : Int} {h' : zH} (hF : F_X12_hasOpen_6b ag6 l0 l1 l2 l3 h = some (r, h')) : FrN h h' := by
  unfold F_X12_hasOpen_6b at hF
  obtain ⟨g1, hF⟩ := zg hF
  by_cases c2 : gt h 12 l0 34 ≤ l3
  · have hF := ip c2 hF
    obtain ⟨_, hF⟩ := zg hF
    obtain ⟨_, rfl⟩ := zr hF
    exact (frrN h)
  · have hF := im c2 hF
    by_cases c3 : l2 ≠ 0
    · have hF := ip c3 hF
      exact (frrN h).tr (n_X12_hasOpen_47 hag6 hF)
    · have hF := im c3 hF
      obtain ⟨g4, hF⟩ := zg hF
      obtain ⟨g5, hF⟩ := zg hF
      by_cases c6 : gt h 80 (gt h 12 l0 40) l3 = 0
      · have hF := ip c6 hF
        exact (frrN h).tr (n_X12_hasOpen_51 hag6 hF)
      · have hF := im c6 hF
        obtain ⟨g7, hF⟩ := zg hF
        by_cases c8 : gt h 76 (gt h 12 l0 36) l3 ≠ 2
        · have hF := ip c8 hF
          exact (frrN h).tr (n_X12_hasOpen_51 hag6 hF)
        · have hF := im c8 hF
          obtain ⟨g9, hF⟩ := zg hF
          by_cases c10 : gt h 77 (gt h 12 l0 37) l3 ≠ l1
          · have hF := ip c10 hF
            exact (frrN h).tr (n_X12_hasOpen_51 hag6 hF)
          · have hF := im c10 hF
            exact (frrN h).tr (n_X12_hasOpen_47 hag6 hF)
theorem n_X12_hasOpen_6 : ∀ (n : Nat) (l0 l1 l2 l3 : Int) (h : zH) (r : Int) (h' : zH), F_X12_hasOpen_6 n l0 l1 l2 l3 h = some (r, h') → FrN h h'
  | 0, _, _, _, _, _, _, _, hF => by cases hF
  | n + 1, _, _, _, _, _, _, _, hF => n_X12_hasOpen_6b (n_X12_hasOpen_6 n) hF
theorem n_X12_hasOpen_0 {l0 l1 : Int} {h : zH} {r : Int} {h' : zH} (hF : F_X12_hasOpen_0 l0 l1 h = some (r, h')) : FrN h h' := by
  unfold F_X12_hasOpen_0 at hF
  exact (frrN h).tr (n_X12_hasOpen_6 _ _ _ _ _ _ _ _ hF)
theorem nf_X12_hasOpen {l0 l1 : Int} {h : zH} {r : Int} {h' : zH} (hF : F_X12_hasOpen l0 l1 h = some (r, h')) : FrN h h' := n_X12_hasOpen_0 hF
theorem n_X12_doSlot_97 {l0 l2 l6 : Int} {h : zH} {r : Int} {h' : zH} (hF : F_X12_doSlot_97 l0 l2 l6 h = some (r, h')) : FrN h h' := by
  unfold F_X12_doSlot_97 at hF
  obtain ⟨g2, hF⟩ := zg hF
  obtain ⟨r1, h1, e1, hF⟩ := zb_some hF
  obtain ⟨_, rfl⟩ := zr hF
  exact ((frrN h).tr (nf_X12_fail e1))
theorem n_X12_doSlot_13 {l0 l2 l3 : Int} {h : zH} {r : Int} {h' : zH} (hF : F_X12_doSlot_13 l0 l2 l3 h = some (r, h')) : FrN h h' := by
  unfold F_X12_doSlot_13 at hF
  by_cases c1 : 0 ≤ l3
  · have hF := ip c1 hF
    obtain ⟨g2, hF⟩ := zg hF
    obtain ⟨g3, hF⟩ := zg hF
    obtain ⟨g4, hF⟩ := zg hF
    obtain ⟨r5, h5, e5, hF⟩ := zb_some hF
    obtain ⟨_, rfl⟩ := zr hF
    exact ((frrN h).tr (nf_X12_fail e5))
  · have hF := im c1 hF
    obtain ⟨g7, hF⟩ := zg hF
    obtain ⟨r6, h6, e6, hF⟩ := zb_some hF
    obtain ⟨_, rfl⟩ := zr hF
    exact ((frrN h).tr (nf_X12_fail e6))
theorem n_X12_doSlot_0 {l0 l1 l2 l3 l4 l5 : Int} {h : zH} {r : Int} {h' : zH} (hF : F_X12_doSlot_0 l0 l1 l2 l3 l4 l5 h = some (r, h')) : FrN h h' := by
  unfold F_X12_doSlot_0 at hF
  by_cases c1 : l3 < 0
  · have hF := ip c1 hF
    exact (frrN h).tr (n_X12_doSlot_13 hF)
  · have hF := im c1 hF
    obtain ⟨g2, hF⟩ := zg hF
    obtain ⟨g3, hF⟩ := zg hF
    obtain ⟨g4, hF⟩ := zg hF
    by_cases c5 : gt h 80 (gt h 12 l0 40) l3 ≠ 0
    · have hF := ip c5 hF
      obtain ⟨g6, hF⟩ := zg hF
      by_cases c7 : l1 ≠ 4
      · have hF := ip c7 hF
        by_cases c8 : l1 ≠ 6
        · have hF := ip c8 hF
          obtain ⟨r9, h9, e9, hF⟩ := zb_some hF
          by_cases c10 : r9 = 0
          · have hF := ip c10 hF
            by_cases c11 : l1 ≠ 5
            · have hF := ip c11 hF
              obtain ⟨r12, h12, e12, hF⟩ := zb_some hF
              by_cases c13 : r12 = 0
              · have hF := ip c13 hF
                obtain ⟨_, rfl⟩ := zr hF
                exact (((frrN h).tr (nf_X12_hasOpen e9)).tr (nf_X12_meets e12))
              · have hF := im c13 hF
                obtain ⟨r14, h14, e14, hF⟩ := zb_some hF
                obtain ⟨_, rfl⟩ := zr hF
                exact ((((frrN h).tr (nf_X12_hasOpen e9)).tr (nf_X12_meets e12)).tr (nf_X12_fail e14))
            · have hF := im c11 hF
              obtain ⟨r15, h15, e15, hF⟩ := zb_some hF
              obtain ⟨g16, hF⟩ := zg hF
              obtain ⟨g17, hF⟩ := zg hF
              obtain ⟨_, rfl⟩ := zr hF
              exact (frpN (((frrN h).tr (nf_X12_hasOpen e9)).tr (nf_X12_newLoan e15)))
          · have hF := im c10 hF
            obtain ⟨r18, h18, e18, hF⟩ := zb_some hF
            obtain ⟨_, rfl⟩ := zr hF
            exact (((frrN h).tr (nf_X12_hasOpen e9)).tr (nf_X12_fail e18))
        · have hF := im c8 hF
          obtain ⟨r19, h19, e19, hF⟩ := zb_some hF
          by_cases c20 : r19 < 0
          · have hF := ip c20 hF
            exact ((frrN h).tr (nf_X12_innermost e19)).tr (n_X12_doSlot_97 hF)
          · have hF := im c20 hF
            obtain ⟨g21, hF⟩ := zg hF
            by_cases c22 : gt h19 76 (gt h19 12 l0 36) l3 ≠ 1
            · have hF := ip c22 hF
              obtain ⟨g23, hF⟩ := zg hF
              obtain ⟨g24, hF⟩ := zg hF
              have hF := zl_e hF
              have fk25 : FrN h (pt (pt h19 78 (gt h19 12 l0 38) l3 r19) 79 (gt (pt h19 78 (gt h19 12 l0 38) l3 r19) 12 l0 39) l3 (gt (pt h19 78 (gt h19 12 l0 38) l3 r19) 12 l0 43)) := (frpN (frpN ((frrN h).tr (nf_X12_innermost e19))))
              generalize pt (pt h19 78 (gt h19 12 l0 38) l3 r19) 79 (gt (pt h19 78 (gt h19 12 l0 38) l3 r19) 12 l0 39) l3 (gt (pt h19 78 (gt h19 12 l0 38) l3 r19) 12 l0 43) = k25 at hF fk25
              obtain ⟨_, rfl⟩ := zr hF
              exact (frpN fk25)
            · have hF := im c22 hF
              exact ((frrN h).tr (nf_X12_innermost e19)).tr (n_X12_doSlot_97 hF)
      · have hF := im c7 hF
        obtain ⟨r26, h26, e26, hF⟩ := zb_some hF
        by_cases c27 : r26 = 0
        · have hF := ip c27 hF
          obtain ⟨_, rfl⟩ := zr hF
          exact ((frrN h).tr (nf_X12_giveBack e26))
        · have hF := im c27 hF
          obtain ⟨r28, h28, e28, hF⟩ := zb_some hF
          obtain ⟨_, rfl⟩ := zr hF
          exact (((frrN h).tr (nf_X12_giveBack e26)).tr (nf_X12_fail e28))
    · have hF := im c5 hF
      exact (frrN h).tr (n_X12_doSlot_13 hF)
theorem nf_X12_doSlot {l0 l1 l2 l3 l4 l5 : Int} {h : zH} {r : Int} {h' : zH} (hF : F_X12_doSlot l0 l1 l2 l3 l4 l5 h = some (r, h')) : FrN h h' := n_X12_doSlot_0 hF
theorem n_X12_doLine_380 {l0 l2 l4 l7 l8 : Int} {h : zH} {r : Int} {h' : zH} (hF : F_X12_doLine_380 l0 l2 l4 l7 l8 h = some (r, h')) : FrN h h' := by
  unfold F_X12_doLine_380 at hF
  by_cases c1 : l8 = 0
  · have hF := ip c1 hF
    obtain ⟨g3, hF⟩ := zg hF
    obtain ⟨r2, h2, e2, hF⟩ := zb_some hF
    obtain ⟨_, rfl⟩ := zr hF
    exact ((frrN h).tr (nf_X12_fail e2))
  · have hF := im c1 hF
    obtain ⟨g5, hF⟩ := zg hF
    obtain ⟨r4, h4, e4, hF⟩ := zb_some hF
    obtain ⟨_, rfl⟩ := zr hF
    exact ((frrN h).tr (nf_X12_beginAct e4))
theorem n_X12_doLine_243 {l0 l2 l4 l6 l7 : Int} {h : zH} {r : Int} {h' : zH} (hF : F_X12_doLine_243 l0 l2 l4 l6 l7 h = some (r, h')) : FrN h h' := by
  unfold F_X12_doLine_243 at hF
  obtain ⟨g1, hF⟩ := zg hF
  by_cases c2 : l7 ≠ gt h 12 l0 0
  · have hF := ip c2 hF
    obtain ⟨r3, h3, e3, hF⟩ := zb_some hF
    obtain ⟨g4, hF⟩ := zg hF
    obtain ⟨g5, hF⟩ := zg hF
    obtain ⟨_, rfl⟩ := zr hF
    exact (frpN ((frrN h).tr (nf_X12_newLoan e3)))
  · have hF := im c2 hF
    obtain ⟨r6, h6, e6, hF⟩ := zb_some hF
    obtain ⟨_, rfl⟩ := zr hF
    exact ((frrN h).tr (nf_X12_fail e6))
theorem n_X12_doLine_206b {ag206 : Int → Int → Int → Int → Int → Int → zH → zO} (hag206 : ∀ (l0 l2 l4 l5 l6 l7 : Int) (h : zH) (r : Int) (h' : zH), ag206 l0 l2 l4 l5 l6 l7 h = some (r, h') → FrN h h') {l0 l2 l4 l5 l6 l7 : Int} {h : zH} {r : Int} {h' : zH} (hF : F_X12_doLine_206b ag206 l0 l2 l4 l5 l6 l7 h = some (r, h')) : FrN h h' := by
  unfold F_X12_doLine_206b at hF
  obtain ⟨g1, hF⟩ := zg hF
  by_cases c2 : gt h 12 l0 0 ≤ l7
  · have hF := ip c2 hF
    exact (frrN h).tr (n_X12_doLine_243 hF)
  · have hF := im c2 hF
    obtain ⟨g3, hF⟩ := zg hF
    obtain ⟨g4, hF⟩ := zg hF
    by_cases c5 : gt h 50 (gt h 12 l0 1) l7 ≠ l5
    · have hF := ip c5 hF
      exact (frrN h).tr (hag206 _ _ _ _ _ _ _ _ _ hF)
    · have hF := im c5 hF
      obtain ⟨g6, hF⟩ := zg hF
      by_cases c7 : gt h 52 (gt h 12 l0 3) l7 = 0
      · have hF := ip c7 hF
        exact (frrN h).tr (n_X12_doLine_243 hF)
      · have hF := im c7 hF
        exact (frrN h).tr (hag206 _ _ _ _ _ _ _ _ _ hF)
theorem n_X12_doLine_206 : ∀ (n : Nat) (l0 l2 l4 l5 l6 l7 : Int) (h : zH) (r : Int) (h' : zH), F_X12_doLine_206 n l0 l2 l4 l5 l6 l7 h = some (r, h') → FrN h h'
  | 0, _, _, _, _, _, _, _, _, _, hF => by cases hF
  | n + 1, _, _, _, _, _, _, _, _, _, hF => n_X12_doLine_206b (n_X12_doLine_206 n) hF
theorem n_X12_doLine_143 {l0 l2 l5 : Int} {h : zH} {r : Int} {h' : zH} (hF : F_X12_doLine_143 l0 l2 l5 h = some (r, h')) : FrN h h' := by
  unfold F_X12_doLine_143 at hF
  obtain ⟨g2, hF⟩ := zg hF
  obtain ⟨r1, h1, e1, hF⟩ := zb_some hF
  obtain ⟨_, rfl⟩ := zr hF
  exact ((frrN h).tr (nf_X12_fail e1))
theorem n_X12_doLine_0 {l0 l1 l2 : Int} {h : zH} {r : Int} {h' : zH} (hF : F_X12_doLine_0 l0 l1 l2 h = some (r, h')) : FrN h h' := by
  unfold F_X12_doLine_0 at hF
  obtain ⟨g1, hF⟩ := zg hF
  obtain ⟨g2, hF⟩ := zg hF
  obtain ⟨g3, hF⟩ := zg hF
  obtain ⟨g4, hF⟩ := zg hF
  obtain ⟨g5, hF⟩ := zg hF
  obtain ⟨r6, h6, e6, hF⟩ := zb_some hF
  by_cases c7 : gt h 63 (gt h 12 l0 18) (wI ((wI (40 * l1)) + l2)) = 0 ∨ gt h 63 (gt h 12 l0 18) (wI ((wI (40 * l1)) + l2)) = 2
  · have hF := ip c7 hF
    obtain ⟨r28, h28, e28, hF⟩ := zb_some hF
    by_cases c29 : r28 ≠ 0
    · have hF := ip c29 hF
      exact (((frrN h).tr (nf_X12_goTo e6)).tr (nf_X12_noPart e28)).tr (n_X12_doLine_143 hF)
    · have hF := im c29 hF
      obtain ⟨g30, hF⟩ := zg hF
      obtain ⟨g31, hF⟩ := zg hF
      by_cases c32 : gt h28 52 (gt h28 12 l0 3) (gt h 65 (gt h 12 l0 20) (wI ((wI (40 * l1)) + l2))) = 0
      · have hF := ip c32 hF
        by_cases c33 : gt h 63 (gt h 12 l0 18) (wI ((wI (40 * l1)) + l2)) ≠ 2
        · have hF := ip c33 hF
          obtain ⟨r34, h34, e34, hF⟩ := zb_some hF
          obtain ⟨g35, hF⟩ := zg hF
          obtain ⟨g36, hF⟩ := zg hF
          have hF := zl_e hF
          have fk37 : FrN h (pt h34 74 (gt h28 12 l0 32) (wI ((wI (8 * (wI ((gt h 12 l0 33) - 1)))) + (gt h 64 (gt h 12 l0 19) (wI ((wI (40 * l1)) + l2))))) r34) := (frpN ((((frrN h).tr (nf_X12_goTo e6)).tr (nf_X12_noPart e28)).tr (nf_X12_newLoan e34)))
          generalize pt h34 74 (gt h28 12 l0 32) (wI ((wI (8 * (wI ((gt h 12 l0 33) - 1)))) + (gt h 64 (gt h 12 l0 19) (wI ((wI (40 * l1)) + l2))))) r34 = k37 at hF fk37
          by_cases c38 : gt h 63 (gt h 12 l0 18) (wI ((wI (40 * l1)) + l2)) ≠ 2
          · have hF := ip c38 hF
            obtain ⟨_, rfl⟩ := zr hF
            exact fk37
          · have hF := im c38 hF
            obtain ⟨g39, hF⟩ := zg hF
            obtain ⟨r40, h40, e40, hF⟩ := zb_some hF
            obtain ⟨_, rfl⟩ := zr hF
            exact (fk37.tr (nf_X12_trace e40))
        · have hF := im c33 hF
          obtain ⟨r41, h41, e41, hF⟩ := zb_some hF
          obtain ⟨g42, hF⟩ := zg hF
          obtain ⟨g43, hF⟩ := zg hF
          have hF := zl_e hF
          have fk44 : FrN h (pt h41 74 (gt h28 12 l0 32) (wI ((wI (8 * (wI ((gt h 12 l0 33) - 1)))) + (gt h 64 (gt h 12 l0 19) (wI ((wI (40 * l1)) + l2))))) r41) := (frpN ((((frrN h).tr (nf_X12_goTo e6)).tr (nf_X12_noPart e28)).tr (nf_X12_newLoan e41)))
          generalize pt h41 74 (gt h28 12 l0 32) (wI ((wI (8 * (wI ((gt h 12 l0 33) - 1)))) + (gt h 64 (gt h 12 l0 19) (wI ((wI (40 * l1)) + l2))))) r41 = k44 at hF fk44
          by_cases c45 : gt h 63 (gt h 12 l0 18) (wI ((wI (40 * l1)) + l2)) ≠ 2
          · have hF := ip c45 hF
            obtain ⟨_, rfl⟩ := zr hF
            exact fk44
          · have hF := im c45 hF
            obtain ⟨g46, hF⟩ := zg hF
            obtain ⟨r47, h47, e47, hF⟩ := zb_some hF
            obtain ⟨_, rfl⟩ := zr hF
            exact (fk44.tr (nf_X12_trace e47))
      · have hF := im c32 hF
        exact (((frrN h).tr (nf_X12_goTo e6)).tr (nf_X12_noPart e28)).tr (n_X12_doLine_143 hF)
  · have hF := im c7 hF
    by_cases c48 : gt h 63 (gt h 12 l0 18) (wI ((wI (40 * l1)) + l2)) = 1
    · have hF := ip c48 hF
      exact ((frrN h).tr (nf_X12_goTo e6)).tr (n_X12_doLine_206 _ _ _ _ _ _ _ _ _ _ hF)
    · have hF := im c48 hF
      by_cases c49 : gt h 63 (gt h 12 l0 18) (wI ((wI (40 * l1)) + l2)) = 3 ∨ gt h 63 (gt h 12 l0 18) (wI ((wI (40 * l1)) + l2)) = 4 ∨ gt h 63 (gt h 12 l0 18) (wI ((wI (40 * l1)) + l2)) = 5 ∨ gt h 63 (gt h 12 l0 18) (wI ((wI (40 * l1)) + l2)) = 6
      · have hF := ip c49 hF
        obtain ⟨g53, hF⟩ := zg hF
        obtain ⟨g54, hF⟩ := zg hF
        obtain ⟨r55, h55, e55, hF⟩ := zb_some hF
        obtain ⟨_, rfl⟩ := zr hF
        exact (((frrN h).tr (nf_X12_goTo e6)).tr (nf_X12_doSlot e55))
      · have hF := im c49 hF
        by_cases c56 : gt h 63 (gt h 12 l0 18) (wI ((wI (40 * l1)) + l2)) = 7
        · have hF := ip c56 hF
          by_cases c67 : gt h6 12 l0 33 ≠ 10
          · have hF := ip c67 hF
            obtain ⟨g68, hF⟩ := zg hF
            obtain ⟨g69, hF⟩ := zg hF
            obtain ⟨r70, h70, e70, hF⟩ := zb_some hF
            by_cases c71 : r70 ≠ 0
            · have hF := ip c71 hF
              exact (((frrN h).tr (nf_X12_goTo e6)).tr (nf_X12_noAct e70)).tr (n_X12_doLine_380 hF)
            · have hF := im c71 hF
              obtain ⟨r74, h74, e74, hF⟩ := zb_some hF
              by_cases c75 : gt h74 12 l0 21 ≠ 0
              · have hF := ip c75 hF
                exact ((((frrN h).tr (nf_X12_goTo e6)).tr (nf_X12_noAct e70)).tr (nf_X12_judge e74)).tr (n_X12_doLine_380 hF)
              · have hF := im c75 hF
                exact ((((frrN h).tr (nf_X12_goTo e6)).tr (nf_X12_noAct e70)).tr (nf_X12_judge e74)).tr (n_X12_doLine_380 hF)
          · have hF := im c67 hF
            obtain ⟨r76, h76, e76, hF⟩ := zb_some hF
            obtain ⟨_, rfl⟩ := zr hF
            exact (((frrN h).tr (nf_X12_goTo e6)).tr (nf_X12_fail e76))
        · have hF := im c56 hF
          by_cases c77 : gt h 63 (gt h 12 l0 18) (wI ((wI (40 * l1)) + l2)) = 8
          · have hF := ip c77 hF
            obtain ⟨r79, h79, e79, hF⟩ := zb_some hF
            obtain ⟨_, rfl⟩ := zr hF
            exact (((frrN h).tr (nf_X12_goTo e6)).tr (nf_X12_fail e79))
          · have hF := im c77 hF
            by_cases c80 : gt h 63 (gt h 12 l0 18) (wI ((wI (40 * l1)) + l2)) = 9
            · have hF := ip c80 hF
              obtain ⟨_, rfl⟩ := zr hF
              exact (frpN ((frrN h).tr (nf_X12_goTo e6)))
            · have hF := im c80 hF
              by_cases c81 : gt h 63 (gt h 12 l0 18) (wI ((wI (40 * l1)) + l2)) = 10
              · have hF := ip c81 hF
                obtain ⟨_, rfl⟩ := zr hF
                exact (frpN ((frrN h).tr (nf_X12_goTo e6)))
              · have hF := im c81 hF
                by_cases c82 : gt h 63 (gt h 12 l0 18) (wI ((wI (40 * l1)) + l2)) = 11
                · have hF := ip c82 hF
                  by_cases c87 : gt h 64 (gt h 12 l0 19) (wI ((wI (40 * l1)) + l2)) ≠ 0
                  · have hF := ip c87 hF
                    obtain ⟨r88, h88, e88, hF⟩ := zb_some hF
                    obtain ⟨_, rfl⟩ := zr hF
                    exact (((frrN h).tr (nf_X12_goTo e6)).tr (nf_X12_begin e88))
                  · have hF := im c87 hF
                    obtain ⟨r89, h89, e89, hF⟩ := zb_some hF
                    obtain ⟨r90, h90, e90, hF⟩ := zb_some hF
                    obtain ⟨_, rfl⟩ := zr hF
                    exact ((((frrN h).tr (nf_X12_goTo e6)).tr (nf_X12_endOf e89)).tr (nf_X12_goTo e90))
                · have hF := im c82 hF
                  by_cases c91 : gt h 63 (gt h 12 l0 18) (wI ((wI (40 * l1)) + l2)) = 12
                  · have hF := ip c91 hF
                    obtain ⟨r93, h93, e93, hF⟩ := zb_some hF
                    obtain ⟨_, rfl⟩ := zr hF
                    exact (((frrN h).tr (nf_X12_goTo e6)).tr (nf_X12_beginScope e93))
                  · have hF := im c91 hF
                    obtain ⟨r94, h94, e94, hF⟩ := zb_some hF
                    obtain ⟨_, rfl⟩ := zr hF
                    exact (((frrN h).tr (nf_X12_goTo e6)).tr (nf_X12_begin e94))
theorem nf_X12_doLine {l0 l1 l2 : Int} {h : zH} {r : Int} {h' : zH} (hF : F_X12_doLine l0 l1 l2 h = some (r, h')) : FrN h h' := n_X12_doLine_0 hF
theorem n_X12_goOn_74 {l0 : Int} {h : zH} {r : Int} {h' : zH} (hF : F_X12_goOn_74 l0 h = some (r, h')) : FrN h h' := by
  unfold F_X12_goOn_74 at hF
  obtain ⟨g2, hF⟩ := zg hF
  obtain ⟨r1, h1, e1, hF⟩ := zb_some hF
  obtain ⟨_, rfl⟩ := zr hF
  exact ((frrN h).tr (nf_X12_leaveTry e1))
theorem n_X12_goOn_0 {l0 : Int} {h : zH} {r : Int} {h' : zH} (hF : F_X12_goOn_0 l0 h = some (r, h')) : FrN h h' := by
  unfold F_X12_goOn_0 at hF
  obtain ⟨g1, hF⟩ := zg hF
  obtain ⟨g2, hF⟩ := zg hF
  obtain ⟨g3, hF⟩ := zg hF
  obtain ⟨g4, hF⟩ := zg hF
  obtain ⟨g5, hF⟩ := zg hF
  obtain ⟨g6, hF⟩ := zg hF
  by_cases c7 : gt h 72 (gt h 12 l0 30) (gt h 12 l0 67) ≠ gt h 62 (gt h 12 l0 17) (gt h 70 (gt h 12 l0 28) (gt h 12 l0 67))
  · have hF := ip c7 hF
    obtain ⟨g8, hF⟩ := zg hF
    obtain ⟨g9, hF⟩ := zg hF
    by_cases c10 : gt h 63 (gt h 12 l0 18) (wI ((wI (40 * (gt h 70 (gt h 12 l0 28) (gt h 12 l0 67)))) + (gt h 72 (gt h 12 l0 30) (gt h 12 l0 67)))) ≠ 16
    · have hF := ip c10 hF
      by_cases c11 : gt h 63 (gt h 12 l0 18) (wI ((wI (40 * (gt h 70 (gt h 12 l0 28) (gt h 12 l0 67)))) + (gt h 72 (gt h 12 l0 30) (gt h 12 l0 67)))) = 14
      · have hF := ip c11 hF
        exact (frrN h).tr (n_X12_goOn_74 hF)
      · have hF := im c11 hF
        by_cases c12 : gt h 63 (gt h 12 l0 18) (wI ((wI (40 * (gt h 70 (gt h 12 l0 28) (gt h 12 l0 67)))) + (gt h 72 (gt h 12 l0 30) (gt h 12 l0 67)))) ≠ 15
        · have hF := ip c12 hF
          obtain ⟨r13, h13, e13, hF⟩ := zb_some hF
          by_cases c14 : r13 = 0
          · have hF := ip c14 hF
            obtain ⟨_, rfl⟩ := zr hF
            exact ((frrN h).tr (nf_X12_step e13))
          · have hF := im c14 hF
            obtain ⟨g15, hF⟩ := zg hF
            obtain ⟨g16, hF⟩ := zg hF
            obtain ⟨r17, h17, e17, hF⟩ := zb_some hF
            obtain ⟨_, rfl⟩ := zr hF
            exact ((frpN ((frrN h).tr (nf_X12_step e13))).tr (nf_X12_doLine e17))
        · have hF := im c12 hF
          exact (frrN h).tr (n_X12_goOn_74 hF)
    · have hF := im c10 hF
      obtain ⟨r18, h18, e18, hF⟩ := zb_some hF
      obtain ⟨_, rfl⟩ := zr hF
      exact ((frrN h).tr (nf_X12_endBlock e18))
  · have hF := im c7 hF
    obtain ⟨_, rfl⟩ := zr hF
    exact (frpN (frrN h))
theorem nf_X12_goOn {l0 : Int} {h : zH} {r : Int} {h' : zH} (hF : F_X12_goOn l0 h = some (r, h')) : FrN h h' := n_X12_goOn_0 hF
theorem n_X12_above_0 {l0 : Int} {h : zH} {r : Int} {h' : zH} (hF : F_X12_above_0 l0 h = some (r, h')) : FrN h h' := by
  unfold F_X12_above_0 at hF
  by_cases c1 : l0 = 0
  · have hF := ip c1 hF
    obtain ⟨_, rfl⟩ := zr hF
    exact (frrN h)
  · have hF := im c1 hF
    by_cases c2 : l0 = 1 ∨ l0 = 5 ∨ l0 = 7 ∨ l0 = 8 ∨ l0 = 9
    · have hF := ip c2 hF
      obtain ⟨_, rfl⟩ := zr hF
      exact (frrN h)
    · have hF := im c2 hF
      by_cases c3 : l0 = 2 ∨ l0 = 3 ∨ l0 = 4
      · have hF := ip c3 hF
        obtain ⟨_, rfl⟩ := zr hF
        exact (frrN h)
      · have hF := im c3 hF
        by_cases c4 : l0 = 6 ∨ l0 = 11
        · have hF := ip c4 hF
          obtain ⟨_, rfl⟩ := zr hF
          exact (frrN h)
        · have hF := im c4 hF
          by_cases c5 : l0 = 10
          · have hF := ip c5 hF
            obtain ⟨_, rfl⟩ := zr hF
            exact (frrN h)
          · have hF := im c5 hF
            obtain ⟨_, rfl⟩ := zr hF
            exact (frrN h)
theorem nf_X12_above {l0 : Int} {h : zH} {r : Int} {h' : zH} (hF : F_X12_above l0 h = some (r, h')) : FrN h h' := n_X12_above_0 hF
theorem n_X12_isUnder_19 {l1 l2 : Int} {h : zH} {r : Int} {h' : zH} (hF : F_X12_isUnder_19 l1 l2 h = some (r, h')) : FrN h h' := by
  unfold F_X12_isUnder_19 at hF
  by_cases c1 : l2 ≠ l1
  · have hF := ip c1 hF
    obtain ⟨_, rfl⟩ := zr hF
    exact (frrN h)
  · have hF := im c1 hF
    obtain ⟨_, rfl⟩ := zr hF
    exact (frrN h)
theorem n_X12_isUnder_2b {ag2 : Int → Int → zH → zO} (hag2 : ∀ (l1 l2 : Int) (h : zH) (r : Int) (h' : zH), ag2 l1 l2 h = some (r, h') → FrN h h') {l1 l2 : Int} {h : zH} {r : Int} {h' : zH} (hF : F_X12_isUnder_2b ag2 l1 l2 h = some (r, h')) : FrN h h' := by
  unfold F_X12_isUnder_2b at hF
  by_cases c1 : l2 < 0
  · have hF := ip c1 hF
    exact (frrN h).tr (n_X12_isUnder_19 hF)
  · have hF := im c1 hF
    by_cases c2 : l2 = l1
    · have hF := ip c2 hF
      exact (frrN h).tr (n_X12_isUnder_19 hF)
    · have hF := im c2 hF
      obtain ⟨r3, h3, e3, hF⟩ := zb_some hF
      exact ((frrN h).tr (nf_X12_above e3)).tr (hag2 _ _ _ _ _ hF)
theorem n_X12_isUnder_2 : ∀ (n : Nat) (l1 l2 : Int) (h : zH) (r : Int) (h' : zH), F_X12_isUnder_2 n l1 l2 h = some (r, h') → FrN h h'
  | 0, _, _, _, _, _, hF => by cases hF
  | n + 1, _, _, _, _, _, hF => n_X12_isUnder_2b (n_X12_isUnder_2 n) hF
theorem n_X12_isUnder_0 {l0 l1 : Int} {h : zH} {r : Int} {h' : zH} (hF : F_X12_isUnder_0 l0 l1 h = some (r, h')) : FrN h h' := by
  unfold F_X12_isUnder_0 at hF
  exact (frrN h).tr (n_X12_isUnder_2 _ _ _ _ _ _ hF)
theorem nf_X12_isUnder {l0 l1 : Int} {h : zH} {r : Int} {h' : zH} (hF : F_X12_isUnder l0 l1 h = some (r, h')) : FrN h h' := n_X12_isUnder_0 hF
theorem n_X12_guardOf_59 {l0 l1 l3 : Int} {h : zH} {r : Int} {h' : zH} (hF : F_X12_guardOf_59 l0 l1 l3 h = some (r, h')) : FrN h h' := by
  unfold F_X12_guardOf_59 at hF
  obtain ⟨g1, hF⟩ := zg hF
  obtain ⟨g2, hF⟩ := zg hF
  obtain ⟨g3, hF⟩ := zg hF
  by_cases c4 : gt h 63 (gt h 12 l0 18) (wI ((wI (40 * l1)) + l3)) ≠ 14
  · have hF := ip c4 hF
    obtain ⟨_, rfl⟩ := zr hF
    exact (frrN h)
  · have hF := im c4 hF
    obtain ⟨_, rfl⟩ := zr hF
    exact (frrN h)
theorem n_X12_guardOf_7b {ag7 : Int → Int → Int → zH → zO} (hag7 : ∀ (l0 l1 l3 : Int) (h : zH) (r : Int) (h' : zH), ag7 l0 l1 l3 h = some (r, h') → FrN h h') {l0 l1 l3 : Int} {h : zH} {r : Int} {h' : zH} (hF : F_X12_guardOf_7b ag7 l0 l1 l3 h = some (r, h')) : FrN h h' := by
  unfold F_X12_guardOf_7b at hF
  obtain ⟨g1, hF⟩ := zg hF
  obtain ⟨g2, hF⟩ := zg hF
  obtain ⟨g3, hF⟩ := zg hF
  by_cases c4 : gt h 63 (gt h 12 l0 18) (wI ((wI (40 * l1)) + l3)) ≠ 14
  · have hF := ip c4 hF
    exact (frrN h).tr (n_X12_guardOf_59 hF)
  · have hF := im c4 hF
    obtain ⟨g5, hF⟩ := zg hF
    obtain ⟨g6, hF⟩ := zg hF
    obtain ⟨g7, hF⟩ := zg hF
    obtain ⟨r8, h8, e8, hF⟩ := zb_some hF
    by_cases c9 : r8 ≠ 0
    · have hF := ip c9 hF
      exact ((frrN h).tr (nf_X12_isUnder e8)).tr (n_X12_guardOf_59 hF)
    · have hF := im c9 hF
      obtain ⟨r10, h10, e10, hF⟩ := zb_some hF
      exact (((frrN h).tr (nf_X12_isUnder e8)).tr (nf_X12_behind e10)).tr (hag7 _ _ _ _ _ _ hF)
theorem n_X12_guardOf_7 : ∀ (n : Nat) (l0 l1 l3 : Int) (h : zH) (r : Int) (h' : zH), F_X12_guardOf_7 n l0 l1 l3 h = some (r, h') → FrN h h'
  | 0, _, _, _, _, _, _, hF => by cases hF
  | n + 1, _, _, _, _, _, _, hF => n_X12_guardOf_7b (n_X12_guardOf_7 n) hF
theorem n_X12_guardOf_0 {l0 l1 l2 : Int} {h : zH} {r : Int} {h' : zH} (hF : F_X12_guardOf_0 l0 l1 l2 h = some (r, h')) : FrN h h' := by
  unfold F_X12_guardOf_0 at hF
  obtain ⟨g2, hF⟩ := zg hF
  obtain ⟨r1, h1, e1, hF⟩ := zb_some hF
  exact ((frrN h).tr (nf_X12_behind e1)).tr (n_X12_guardOf_7 _ _ _ _ _ _ _ hF)
theorem nf_X12_guardOf {l0 l1 l2 : Int} {h : zH} {r : Int} {h' : zH} (hF : F_X12_guardOf l0 l1 l2 h = some (r, h')) : FrN h h' := n_X12_guardOf_0 hF
theorem n_X12_outOfTry_212 {l0 : Int} {h : zH} {r : Int} {h' : zH} (hF : F_X12_outOfTry_212 l0 h = some (r, h')) : FrN h h' := by
  unfold F_X12_outOfTry_212 at hF
  obtain ⟨g2, hF⟩ := zg hF
  obtain ⟨r1, h1, e1, hF⟩ := zb_some hF
  obtain ⟨_, rfl⟩ := zr hF
  exact ((frrN h).tr (nf_X12_leaveTry e1))
theorem n_X12_outOfTry_167 {l0 l1 : Int} {h : zH} {r : Int} {h' : zH} (hF : F_X12_outOfTry_167 l0 l1 h = some (r, h')) : FrN h h' := by
  unfold F_X12_outOfTry_167 at hF
  obtain ⟨g1, hF⟩ := zg hF
  obtain ⟨g2, hF⟩ := zg hF
  obtain ⟨g3, hF⟩ := zg hF
  by_cases c4 : gt h 70 (gt h 12 l0 28) l1 ≠ 1
  · have hF := ip c4 hF
    exact (frrN h).tr (n_X12_outOfTry_212 hF)
  · have hF := im c4 hF
    by_cases c5 : gt h 12 l0 52 ≠ 3
    · have hF := ip c5 hF
      exact (frrN h).tr (n_X12_outOfTry_212 hF)
    · have hF := im c5 hF
      obtain ⟨g6, hF⟩ := zg hF
      obtain ⟨g7, hF⟩ := zg hF
      by_cases c8 : 0 ≤ gt h 87 (gt h 12 l0 50) (gt h 12 l0 53)
      · have hF := ip c8 hF
        exact (frrN h).tr (n_X12_outOfTry_212 hF)
      · have hF := im c8 hF
        obtain ⟨g9, hF⟩ := zg hF
        exact (frpN (frrN h)).tr (n_X12_outOfTry_212 hF)
theorem n_X12_outOfTry_73 {l0 : Int} {h : zH} {r : Int} {h' : zH} (hF : F_X12_outOfTry_73 l0 h = some (r, h')) : FrN h h' := by
  unfold F_X12_outOfTry_73 at hF
  obtain ⟨g1, hF⟩ := zg hF
  obtain ⟨_, rfl⟩ := zr hF
  exact (frpN (frrN h))
theorem n_X12_outOfTry_0 {l0 : Int} {h : zH} {r : Int} {h' : zH} (hF : F_X12_outOfTry_0 l0 h = some (r, h')) : FrN h h' := by
  unfold F_X12_outOfTry_0 at hF
  obtain ⟨g1, hF⟩ := zg hF
  obtain ⟨g2, hF⟩ := zg hF
  obtain ⟨g3, hF⟩ := zg hF
  obtain ⟨g4, hF⟩ := zg hF
  by_cases c5 : gt h 70 (gt h 12 l0 28) (wI ((gt h 12 l0 25) - 1)) ≠ 2
  · have hF := ip c5 hF
    by_cases c6 : gt h 70 (gt h 12 l0 28) (wI ((gt h 12 l0 25) - 1)) ≠ 0
    · have hF := ip c6 hF
      exact (frrN h).tr (n_X12_outOfTry_167 hF)
    · have hF := im c6 hF
      by_cases c7 : gt h 12 l0 52 ≠ 3
      · have hF := ip c7 hF
        exact (frrN h).tr (n_X12_outOfTry_167 hF)
      · have hF := im c7 hF
        obtain ⟨g8, hF⟩ := zg hF
        obtain ⟨r9, h9, e9, hF⟩ := zb_some hF
        by_cases c10 : r9 < 0
        · have hF := ip c10 hF
          exact ((frrN h).tr (nf_X12_guardOf e9)).tr (n_X12_outOfTry_212 hF)
        · have hF := im c10 hF
          obtain ⟨g11, hF⟩ := zg hF
          obtain ⟨g12, hF⟩ := zg hF
          have hF := zl_e hF
          have fk13 : FrN h (pt (pt h9 70 (gt h9 12 l0 28) (wI ((gt h 12 l0 25) - 1)) 1) 72 (gt (pt h9 70 (gt h9 12 l0 28) (wI ((gt h 12 l0 25) - 1)) 1) 12 l0 30) (wI ((gt h 12 l0 25) - 1)) (gt (pt h9 70 (gt h9 12 l0 28) (wI ((gt h 12 l0 25) - 1)) 1) 12 l0 53)) := (frpN (frpN ((frrN h).tr (nf_X12_guardOf e9))))
          generalize pt (pt h9 70 (gt h9 12 l0 28) (wI ((gt h 12 l0 25) - 1)) 1) 72 (gt (pt h9 70 (gt h9 12 l0 28) (wI ((gt h 12 l0 25) - 1)) 1) 12 l0 30) (wI ((gt h 12 l0 25) - 1)) (gt (pt h9 70 (gt h9 12 l0 28) (wI ((gt h 12 l0 25) - 1)) 1) 12 l0 53) = k13 at hF fk13
          obtain ⟨r14, h14, e14, hF⟩ := zb_some hF
          by_cases c15 : r14 = 0
          · have hF := ip c15 hF
            obtain ⟨_, rfl⟩ := zr hF
            exact ((frpN fk13).tr (nf_X12_step e14))
          · have hF := im c15 hF
            obtain ⟨g16, hF⟩ := zg hF
            obtain ⟨g17, hF⟩ := zg hF
            obtain ⟨r18, h18, e18, hF⟩ := zb_some hF
            obtain ⟨_, rfl⟩ := zr hF
            exact ((frpN ((frpN fk13).tr (nf_X12_step e14))).tr (nf_X12_goTo e18))
  · have hF := im c5 hF
    obtain ⟨g19, hF⟩ := zg hF
    by_cases c20 : gt h 71 (gt h 12 l0 29) (wI ((gt h 12 l0 25) - 1)) ≠ 3
    · have hF := ip c20 hF
      exact (frrN h).tr (n_X12_outOfTry_73 hF)
    · have hF := im c20 hF
      by_cases c21 : gt h 12 l0 52 ≠ 3
      · have hF := ip c21 hF
        exact (frpN (frrN h)).tr (n_X12_outOfTry_73 hF)
      · have hF := im c21 hF
        obtain ⟨g22, hF⟩ := zg hF
        obtain ⟨g23, hF⟩ := zg hF
        obtain ⟨g24, hF⟩ := zg hF
        exact (frpN (frrN h)).tr (n_X12_outOfTry_73 hF)
theorem nf_X12_outOfTry {l0 : Int} {h : zH} {r : Int} {h' : zH} (hF : F_X12_outOfTry l0 h = some (r, h')) : FrN h h' := n_X12_outOfTry_0 hF
theorem n_X12_findAct_10b {ag10 : Int → zH → zO} (hag10 : ∀ (l0 : Int) (h : zH) (r : Int) (h' : zH), ag10 l0 h = some (r, h') → FrN h h') {l0 : Int} {h : zH} {r : Int} {h' : zH} (hF : F_X12_findAct_10b ag10 l0 h = some (r, h')) : FrN h h' := by
  unfold F_X12_findAct_10b at hF
  obtain ⟨g1, hF⟩ := zg hF
  by_cases c2 : gt h 12 l0 67 < 0
  · have hF := ip c2 hF
    obtain ⟨_, rfl⟩ := zr hF
    exact (frrN h)
  · have hF := im c2 hF
    obtain ⟨g3, hF⟩ := zg hF
    obtain ⟨g4, hF⟩ := zg hF
    by_cases c5 : gt h 68 (gt h 12 l0 26) (gt h 12 l0 67) = 17
    · have hF := ip c5 hF
      obtain ⟨_, rfl⟩ := zr hF
      exact (frrN h)
    · have hF := im c5 hF
      exact (frpN (frrN h)).tr (hag10 _ _ _ _ hF)
theorem n_X12_findAct_10 : ∀ (n : Nat) (l0 : Int) (h : zH) (r : Int) (h' : zH), F_X12_findAct_10 n l0 h = some (r, h') → FrN h h'
  | 0, _, _, _, _, hF => by cases hF
  | n + 1, _, _, _, _, hF => n_X12_findAct_10b (n_X12_findAct_10 n) hF
theorem n_X12_findAct_0 {l0 : Int} {h : zH} {r : Int} {h' : zH} (hF : F_X12_findAct_0 l0 h = some (r, h')) : FrN h h' := by
  unfold F_X12_findAct_0 at hF
  obtain ⟨g1, hF⟩ := zg hF
  exact (frpN (frrN h)).tr (n_X12_findAct_10 _ _ _ _ _ hF)
theorem nf_X12_findAct {l0 : Int} {h : zH} {r : Int} {h' : zH} (hF : F_X12_findAct l0 h = some (r, h')) : FrN h h' := n_X12_findAct_0 hF
theorem n_X12_endAct_0 {l0 : Int} {h : zH} {r : Int} {h' : zH} (hF : F_X12_endAct_0 l0 h = some (r, h')) : FrN h h' := by
  unfold F_X12_endAct_0 at hF
  obtain ⟨g1, hF⟩ := zg hF
  have hF := zl_e hF
  have fk2 : FrN h (pt (pt h 12 l0 25 (wI ((gt h 12 l0 25) - 1))) 12 l0 33 (wI ((gt (pt h 12 l0 25 (wI ((gt h 12 l0 25) - 1))) 12 l0 33) - 1))) := (frpN (frpN (frrN h)))
  generalize pt (pt h 12 l0 25 (wI ((gt h 12 l0 25) - 1))) 12 l0 33 (wI ((gt (pt h 12 l0 25 (wI ((gt h 12 l0 25) - 1))) 12 l0 33) - 1)) = k2 at hF fk2
  obtain ⟨r3, h3, e3, hF⟩ := zb_some hF
  by_cases c4 : 0 ≤ gt h3 12 l0 67
  · have hF := ip c4 hF
    by_cases c5 : gt h3 12 l0 52 ≠ 1
    · have hF := ip c5 hF
      obtain ⟨_, rfl⟩ := zr hF
      exact (fk2.tr (nf_X12_findAct e3))
    · have hF := im c5 hF
      obtain ⟨_, rfl⟩ := zr hF
      exact (frpN (fk2.tr (nf_X12_findAct e3)))
  · have hF := im c4 hF
    by_cases c6 : gt (pt h3 12 l0 60 1) 12 l0 52 ≠ 3
    · have hF := ip c6 hF
      by_cases c7 : gt (pt (pt h3 12 l0 60 1) 12 l0 54 0) 12 l0 52 ≠ 3
      · have hF := ip c7 hF
        obtain ⟨_, rfl⟩ := zr hF
        exact (frpN (frpN (frpN (fk2.tr (nf_X12_findAct e3)))))
      · have hF := im c7 hF
        obtain ⟨_, rfl⟩ := zr hF
        exact (frpN (frpN (frpN (fk2.tr (nf_X12_findAct e3)))))
    · have hF := im c6 hF
      by_cases c8 : gt (pt (pt h3 12 l0 60 1) 12 l0 54 1) 12 l0 52 ≠ 3
      · have hF := ip c8 hF
        obtain ⟨_, rfl⟩ := zr hF
        exact (frpN (frpN (frpN (fk2.tr (nf_X12_findAct e3)))))
      · have hF := im c8 hF
        obtain ⟨_, rfl⟩ := zr hF
        exact (frpN (frpN (frpN (fk2.tr (nf_X12_findAct e3)))))
theorem nf_X12_endAct {l0 : Int} {h : zH} {r : Int} {h' : zH} (hF : F_X12_endAct l0 h = some (r, h')) : FrN h h' := n_X12_endAct_0 hF
theorem n_X12_unwind_0 {l0 : Int} {h : zH} {r : Int} {h' : zH} (hF : F_X12_unwind_0 l0 h = some (r, h')) : FrN h h' := by
  unfold F_X12_unwind_0 at hF
  obtain ⟨g1, hF⟩ := zg hF
  obtain ⟨g2, hF⟩ := zg hF
  obtain ⟨g3, hF⟩ := zg hF
  by_cases c4 : gt h 68 (gt h 12 l0 26) (wI ((gt h 12 l0 25) - 1)) = 11
  · have hF := ip c4 hF
    by_cases c11 : gt (pt h 12 l0 25 (wI ((gt h 12 l0 25) - 1))) 12 l0 52 ≠ 2
    · have hF := ip c11 hF
      obtain ⟨_, rfl⟩ := zr hF
      exact (frpN (frrN h))
    · have hF := im c11 hF
      obtain ⟨g12, hF⟩ := zg hF
      obtain ⟨g13, hF⟩ := zg hF
      obtain ⟨g14, hF⟩ := zg hF
      obtain ⟨r15, h15, e15, hF⟩ := zb_some hF
      obtain ⟨r16, h16, e16, hF⟩ := zb_some hF
      obtain ⟨_, rfl⟩ := zr hF
      exact (((frpN (frpN (frrN h))).tr (nf_X12_endOf e15)).tr (nf_X12_goTo e16))
  · have hF := im c4 hF
    by_cases c17 : gt h 68 (gt h 12 l0 26) (wI ((gt h 12 l0 25) - 1)) = 12
    · have hF := ip c17 hF
      obtain ⟨r19, h19, e19, hF⟩ := zb_some hF
      obtain ⟨_, rfl⟩ := zr hF
      exact ((frrN h).tr (nf_X12_endScope e19))
    · have hF := im c17 hF
      by_cases c20 : gt h 68 (gt h 12 l0 26) (wI ((gt h 12 l0 25) - 1)) = 13
      · have hF := ip c20 hF
        obtain ⟨r22, h22, e22, hF⟩ := zb_some hF
        obtain ⟨_, rfl⟩ := zr hF
        exact ((frrN h).tr (nf_X12_outOfTry e22))
      · have hF := im c20 hF
        obtain ⟨r23, h23, e23, hF⟩ := zb_some hF
        obtain ⟨_, rfl⟩ := zr hF
        exact ((frrN h).tr (nf_X12_endAct e23))
theorem nf_X12_unwind {l0 : Int} {h : zH} {r : Int} {h' : zH} (hF : F_X12_unwind l0 h = some (r, h')) : FrN h h' := n_X12_unwind_0 hF
theorem n_X12_run_229b {ag159 : Int → Int → Int → zH → zO} {ag229 : Int → Int → Int → Int → zH → zO} (hag159 : ∀ (l0 l2 l3 : Int) (h : zH) (r : Int) (h' : zH), ag159 l0 l2 l3 h = some (r, h') → FrN h h') (hag229 : ∀ (l0 l2 l3 l4 : Int) (h : zH) (r : Int) (h' : zH), ag229 l0 l2 l3 l4 h = some (r, h') → FrN h h') {l0 l2 l3 l4 : Int} {h : zH} {r : Int} {h' : zH} (hF : F_X12_run_229b ag159 ag229 l0 l2 l3 l4 h = some (r, h')) : FrN h h' := by
  unfold F_X12_run_229b at hF
  by_cases c1 : 20 ≤ l4
  · have hF := ip c1 hF
    obtain ⟨g2, hF⟩ := zg hF
    exact (frpN (frrN h)).tr (hag159 _ _ _ _ _ _ hF)
  · have hF := im c1 hF
    obtain ⟨g3, hF⟩ := zg hF
    obtain ⟨g4, hF⟩ := zg hF
    obtain ⟨g5, hF⟩ := zg hF
    obtain ⟨g6, hF⟩ := zg hF
    obtain ⟨g7, hF⟩ := zg hF
    exact (frpN (frrN h)).tr (hag229 _ _ _ _ _ _ _ hF)
theorem n_X12_run_229 {ag159 : Int → Int → Int → zH → zO} (hag159 : ∀ (l0 l2 l3 : Int) (h : zH) (r : Int) (h' : zH), ag159 l0 l2 l3 h = some (r, h') → FrN h h') : ∀ (n : Nat) (l0 l2 l3 l4 : Int) (h : zH) (r : Int) (h' : zH), F_X12_run_229 ag159 n l0 l2 l3 l4 h = some (r, h') → FrN h h'
  | 0, _, _, _, _, _, _, _, hF => by cases hF
  | n + 1, _, _, _, _, _, _, _, hF => n_X12_run_229b hag159 (n_X12_run_229 hag159 n) hF
theorem n_X12_run_159b {ag159 : Int → Int → Int → zH → zO} (hag159 : ∀ (l0 l2 l3 : Int) (h : zH) (r : Int) (h' : zH), ag159 l0 l2 l3 h = some (r, h') → FrN h h') {l0 l2 l3 : Int} {h : zH} {r : Int} {h' : zH} (hF : F_X12_run_159b ag159 l0 l2 l3 h = some (r, h')) : FrN h h' := by
  unfold F_X12_run_159b at hF
  obtain ⟨g1, hF⟩ := zg hF
  by_cases c2 : gt h 12 l0 34 ≤ l3
  · have hF := ip c2 hF
    obtain ⟨_, rfl⟩ := zr hF
    exact (frrN h)
  · have hF := im c2 hF
    obtain ⟨g3, hF⟩ := zg hF
    obtain ⟨g4, hF⟩ := zg hF
    by_cases c5 : gt h 80 (gt h 12 l0 40) l3 = 0
    · have hF := ip c5 hF
      exact (frrN h).tr (hag159 _ _ _ _ _ _ hF)
    · have hF := im c5 hF
      obtain ⟨g6, hF⟩ := zg hF
      by_cases c7 : gt h 76 (gt h 12 l0 36) l3 ≠ 1
      · have hF := ip c7 hF
        exact (frrN h).tr (hag159 _ _ _ _ _ _ hF)
      · have hF := im c7 hF
        obtain ⟨g8, hF⟩ := zg hF
        obtain ⟨g9, hF⟩ := zg hF
        obtain ⟨g10, hF⟩ := zg hF
        obtain ⟨g11, hF⟩ := zg hF
        obtain ⟨g12, hF⟩ := zg hF
        have hF := zl_e hF
        have fk13 : FrN h (pt (pt h 89 (gt h 12 l0 63) (gt h 12 l0 62) (gt h 75 (gt h 12 l0 35) l3)) 90 (gt (pt h 89 (gt h 12 l0 63) (gt h 12 l0 62) (gt h 75 (gt h 12 l0 35) l3)) 12 l0 64) (gt (pt h 89 (gt h 12 l0 63) (gt h 12 l0 62) (gt h 75 (gt h 12 l0 35) l3)) 12 l0 62) l2) := (frpN (frpN (frrN h)))
        generalize pt (pt h 89 (gt h 12 l0 63) (gt h 12 l0 62) (gt h 75 (gt h 12 l0 35) l3)) 90 (gt (pt h 89 (gt h 12 l0 63) (gt h 12 l0 62) (gt h 75 (gt h 12 l0 35) l3)) 12 l0 64) (gt (pt h 89 (gt h 12 l0 63) (gt h 12 l0 62) (gt h 75 (gt h 12 l0 35) l3)) 12 l0 62) l2 = k13 at hF fk13
        obtain ⟨g14, hF⟩ := zg hF
        obtain ⟨g15, hF⟩ := zg hF
        obtain ⟨g16, hF⟩ := zg hF
        exact (frpN fk13).tr (n_X12_run_229 hag159 _ _ _ _ _ _ _ _ hF)
theorem n_X12_run_159 : ∀ (n : Nat) (l0 l2 l3 : Int) (h : zH) (r : Int) (h' : zH), F_X12_run_159 n l0 l2 l3 h = some (r, h') → FrN h h'
  | 0, _, _, _, _, _, _, hF => by cases hF
  | n + 1, _, _, _, _, _, _, hF => n_X12_run_159b (n_X12_run_159 n) hF
theorem n_X12_run_129b {ag129 : Int → Int → zH → zO} (hag129 : ∀ (l0 l2 : Int) (h : zH) (r : Int) (h' : zH), ag129 l0 l2 h = some (r, h') → FrN h h') {l0 l2 : Int} {h : zH} {r : Int} {h' : zH} (hF : F_X12_run_129b ag129 l0 l2 h = some (r, h')) : FrN h h' := by
  unfold F_X12_run_129b at hF
  obtain ⟨g1, hF⟩ := zg hF
  by_cases c2 : gt h 12 l0 60 ≠ 0
  · have hF := ip c2 hF
    exact (frrN h).tr (n_X12_run_159 _ _ _ _ _ _ _ hF)
  · have hF := im c2 hF
    by_cases c3 : gt h 12 l0 52 ≠ 0
    · have hF := ip c3 hF
      obtain ⟨r4, h4, e4, hF⟩ := zb_some hF
      exact ((frrN h).tr (nf_X12_unwind e4)).tr (hag129 _ _ _ _ _ hF)
    · have hF := im c3 hF
      obtain ⟨r5, h5, e5, hF⟩ := zb_some hF
      exact ((frrN h).tr (nf_X12_goOn e5)).tr (hag129 _ _ _ _ _ hF)
theorem n_X12_run_129 : ∀ (n : Nat) (l0 l2 : Int) (h : zH) (r : Int) (h' : zH), F_X12_run_129 n l0 l2 h = some (r, h') → FrN h h'
  | 0, _, _, _, _, _, hF => by cases hF
  | n + 1, _, _, _, _, _, hF => n_X12_run_129b (n_X12_run_129 n) hF
theorem n_X12_run_0 {l0 l1 l2 : Int} {h : zH} {r : Int} {h' : zH} (hF : F_X12_run_0 l0 l1 l2 h = some (r, h')) : FrN h h' := by
  unfold F_X12_run_0 at hF
  obtain ⟨g2, hF⟩ := zg hF
  obtain ⟨r1, h1, e1, hF⟩ := zb_some hF
  by_cases c3 : r1 ≠ 0
  · have hF := ip c3 hF
    obtain ⟨_, rfl⟩ := zr hF
    exact ((frrN h).tr (nf_X12_noAct e1))
  · have hF := im c3 hF
    obtain ⟨r4, h4, e4, hF⟩ := zb_some hF
    by_cases c5 : r4 ≠ 0
    · have hF := ip c5 hF
      obtain ⟨r6, h6, e6, hF⟩ := zb_some hF
      by_cases c7 : gt h6 12 l0 21 ≤ 0
      · have hF := ip c7 hF
        have hF := zl_e hF
        have fk8 : FrN h (pt (pt (pt (pt (pt (pt (pt (pt h6 12 l0 25 0) 12 l0 33 0) 12 l0 34 0) 12 l0 43 0) 12 l0 44 0) 12 l0 45 0) 12 l0 52 0) 12 l0 53 (-1)) := (frpN (frpN (frpN (frpN (frpN (frpN (frpN (frpN ((((frrN h).tr (nf_X12_noAct e1)).tr (nf_X12_in e4)).tr (nf_X12_judge e6))))))))))
        generalize pt (pt (pt (pt (pt (pt (pt (pt h6 12 l0 25 0) 12 l0 33 0) 12 l0 34 0) 12 l0 43 0) 12 l0 44 0) 12 l0 45 0) 12 l0 52 0) 12 l0 53 (-1) = k8 at hF fk8
        have hF := zl_e hF
        have fk9 : FrN h (pt (pt (pt (pt (pt (pt (pt (pt k8 12 l0 54 0) 12 l0 55 0) 12 l0 56 0) 12 l0 57 0) 12 l0 58 0) 12 l0 59 (-1)) 12 l0 60 0) 12 l0 61 l2) := (frpN (frpN (frpN (frpN (frpN (frpN (frpN (frpN fk8))))))))
        generalize pt (pt (pt (pt (pt (pt (pt (pt k8 12 l0 54 0) 12 l0 55 0) 12 l0 56 0) 12 l0 57 0) 12 l0 58 0) 12 l0 59 (-1)) 12 l0 60 0) 12 l0 61 l2 = k9 at hF fk9
        obtain ⟨r10, h10, e10, hF⟩ := zb_some hF
        obtain ⟨r11, h11, e11, hF⟩ := zb_some hF
        exact ((fk9.tr (nf_X12_beginAct e10)).tr (nf_X12_goTo e11)).tr (n_X12_run_129 _ _ _ _ _ _ hF)
      · have hF := im c7 hF
        obtain ⟨_, rfl⟩ := zr hF
        exact ((((frrN h).tr (nf_X12_noAct e1)).tr (nf_X12_in e4)).tr (nf_X12_judge e6))
    · have hF := im c5 hF
      obtain ⟨_, rfl⟩ := zr hF
      exact (((frrN h).tr (nf_X12_noAct e1)).tr (nf_X12_in e4))
theorem nf_X12_run {l0 l1 l2 : Int} {h : zH} {r : Int} {h' : zH} (hF : F_X12_run l0 l1 l2 h = some (r, h')) : FrN h h' := n_X12_run_0 hF
theorem n_X12_ran_0 {l0 l1 : Int} {h : zH} {r : Int} {h' : zH} (hF : F_X12_ran_0 l0 l1 h = some (r, h')) : FrN h h' := by
  unfold F_X12_ran_0 at hF
  by_cases c1 : l1 = 0
  · have hF := ip c1 hF
    obtain ⟨g3, hF⟩ := zg hF
    obtain ⟨_, rfl⟩ := zr hF
    exact (frrN h)
  · have hF := im c1 hF
    by_cases c4 : l1 = 1
    · have hF := ip c4 hF
      obtain ⟨g6, hF⟩ := zg hF
      obtain ⟨_, rfl⟩ := zr hF
      exact (frrN h)
    · have hF := im c4 hF
      by_cases c7 : l1 = 2
      · have hF := ip c7 hF
        obtain ⟨g9, hF⟩ := zg hF
        obtain ⟨_, rfl⟩ := zr hF
        exact (frrN h)
      · have hF := im c7 hF
        by_cases c10 : l1 = 3
        · have hF := ip c10 hF
          obtain ⟨g12, hF⟩ := zg hF
          obtain ⟨_, rfl⟩ := zr hF
          exact (frrN h)
        · have hF := im c10 hF
          by_cases c13 : l1 = 4
          · have hF := ip c13 hF
            obtain ⟨g15, hF⟩ := zg hF
            obtain ⟨_, rfl⟩ := zr hF
            exact (frrN h)
          · have hF := im c13 hF
            by_cases c16 : l1 = 5
            · have hF := ip c16 hF
              obtain ⟨g18, hF⟩ := zg hF
              obtain ⟨_, rfl⟩ := zr hF
              exact (frrN h)
            · have hF := im c16 hF
              by_cases c19 : l1 = 6
              · have hF := ip c19 hF
                obtain ⟨g21, hF⟩ := zg hF
                obtain ⟨_, rfl⟩ := zr hF
                exact (frrN h)
              · have hF := im c19 hF
                obtain ⟨_, rfl⟩ := zr hF
                exact (frrN h)
theorem nf_X12_ran {l0 l1 : Int} {h : zH} {r : Int} {h' : zH} (hF : F_X12_ran l0 l1 h = some (r, h')) : FrN h h' := n_X12_ran_0 hF
theorem n_X12_failure_0 {l0 l1 l2 : Int} {h : zH} {r : Int} {h' : zH} (hF : F_X12_failure_0 l0 l1 l2 h = some (r, h')) : FrN h h' := by
  unfold F_X12_failure_0 at hF
  obtain ⟨g1, hF⟩ := zg hF
  obtain ⟨r2, h2, e2, hF⟩ := zb_some hF
  by_cases c3 : r2 ≠ 0
  · have hF := ip c3 hF
    by_cases c4 : l2 = 0
    · have hF := ip c4 hF
      obtain ⟨g7, hF⟩ := zg hF
      obtain ⟨g8, hF⟩ := zg hF
      obtain ⟨_, rfl⟩ := zr hF
      exact ((frrN h).tr (nf_X12_in e2))
    · have hF := im c4 hF
      by_cases c9 : l2 = 1
      · have hF := ip c9 hF
        obtain ⟨g12, hF⟩ := zg hF
        obtain ⟨g13, hF⟩ := zg hF
        obtain ⟨_, rfl⟩ := zr hF
        exact ((frrN h).tr (nf_X12_in e2))
      · have hF := im c9 hF
        by_cases c14 : l2 = 2
        · have hF := ip c14 hF
          obtain ⟨g17, hF⟩ := zg hF
          obtain ⟨g18, hF⟩ := zg hF
          obtain ⟨_, rfl⟩ := zr hF
          exact ((frrN h).tr (nf_X12_in e2))
        · have hF := im c14 hF
          by_cases c19 : l2 = 3
          · have hF := ip c19 hF
            obtain ⟨g22, hF⟩ := zg hF
            obtain ⟨g23, hF⟩ := zg hF
            obtain ⟨_, rfl⟩ := zr hF
            exact ((frrN h).tr (nf_X12_in e2))
          · have hF := im c19 hF
            by_cases c24 : l2 = 4
            · have hF := ip c24 hF
              obtain ⟨g27, hF⟩ := zg hF
              obtain ⟨g28, hF⟩ := zg hF
              obtain ⟨_, rfl⟩ := zr hF
              exact ((frrN h).tr (nf_X12_in e2))
            · have hF := im c24 hF
              by_cases c29 : l2 = 5
              · have hF := ip c29 hF
                obtain ⟨g32, hF⟩ := zg hF
                obtain ⟨g33, hF⟩ := zg hF
                obtain ⟨_, rfl⟩ := zr hF
                exact ((frrN h).tr (nf_X12_in e2))
              · have hF := im c29 hF
                obtain ⟨_, rfl⟩ := zr hF
                exact ((frrN h).tr (nf_X12_in e2))
  · have hF := im c3 hF
    obtain ⟨_, rfl⟩ := zr hF
    exact ((frrN h).tr (nf_X12_in e2))
theorem nf_X12_failure {l0 l1 l2 : Int} {h : zH} {r : Int} {h' : zH} (hF : F_X12_failure l0 l1 l2 h = some (r, h')) : FrN h h' := n_X12_failure_0 hF
theorem n_X12_leaks_0 {l0 : Int} {h : zH} {r : Int} {h' : zH} (hF : F_X12_leaks_0 l0 h = some (r, h')) : FrN h h' := by
  unfold F_X12_leaks_0 at hF
  obtain ⟨g1, hF⟩ := zg hF
  obtain ⟨_, rfl⟩ := zr hF
  exact (frrN h)
theorem nf_X12_leaks {l0 : Int} {h : zH} {r : Int} {h' : zH} (hF : F_X12_leaks l0 h = some (r, h')) : FrN h h' := n_X12_leaks_0 hF
theorem n_X12_leak_0 {l0 l1 l2 : Int} {h : zH} {r : Int} {h' : zH} (hF : F_X12_leak_0 l0 l1 l2 h = some (r, h')) : FrN h h' := by
  unfold F_X12_leak_0 at hF
  obtain ⟨g1, hF⟩ := zg hF
  obtain ⟨r2, h2, e2, hF⟩ := zb_some hF
  by_cases c3 : r2 ≠ 0
  · have hF := ip c3 hF
    by_cases c4 : l2 ≠ 0
    · have hF := ip c4 hF
      by_cases c5 : l2 ≠ 1
      · have hF := ip c5 hF
        by_cases c6 : l2 ≠ 2
        · have hF := ip c6 hF
          obtain ⟨_, rfl⟩ := zr hF
          exact ((frrN h).tr (nf_X12_in e2))
        · have hF := im c6 hF
          obtain ⟨g7, hF⟩ := zg hF
          obtain ⟨g8, hF⟩ := zg hF
          obtain ⟨_, rfl⟩ := zr hF
          exact ((frrN h).tr (nf_X12_in e2))
      · have hF := im c5 hF
        obtain ⟨g9, hF⟩ := zg hF
        obtain ⟨g10, hF⟩ := zg hF
        obtain ⟨_, rfl⟩ := zr hF
        exact ((frrN h).tr (nf_X12_in e2))
    · have hF := im c4 hF
      obtain ⟨g11, hF⟩ := zg hF
      obtain ⟨g12, hF⟩ := zg hF
      obtain ⟨_, rfl⟩ := zr hF
      exact ((frrN h).tr (nf_X12_in e2))
  · have hF := im c3 hF
    obtain ⟨_, rfl⟩ := zr hF
    exact ((frrN h).tr (nf_X12_in e2))
theorem nf_X12_leak {l0 l1 l2 : Int} {h : zH} {r : Int} {h' : zH} (hF : F_X12_leak l0 l1 l2 h = some (r, h')) : FrN h h' := n_X12_leak_0 hF
theorem n_X12_trace__0 {l0 l1 l2 l3 : Int} {h : zH} {r : Int} {h' : zH} (hF : F_X12_trace__0 l0 l1 l2 l3 h = some (r, h')) : FrN h h' := by
  unfold F_X12_trace__0 at hF
  obtain ⟨g1, hF⟩ := zg hF
  obtain ⟨r2, h2, e2, hF⟩ := zb_some hF
  by_cases c3 : r2 = 0
  · have hF := ip c3 hF
    obtain ⟨_, rfl⟩ := zr hF
    exact ((frrN h).tr (nf_X12_in e2))
  · have hF := im c3 hF
    obtain ⟨g4, hF⟩ := zg hF
    obtain ⟨g5, hF⟩ := zg hF
    obtain ⟨r6, h6, e6, hF⟩ := zb_some hF
    by_cases c7 : r6 ≠ 0
    · have hF := ip c7 hF
      obtain ⟨r8, h8, e8, hF⟩ := zb_some hF
      by_cases c9 : r8 = 0
      · have hF := ip c9 hF
        obtain ⟨_, rfl⟩ := zr hF
        exact ((((frrN h).tr (nf_X12_in e2)).tr (nf_X12_in e6)).tr (nf_X12_in e8))
      · have hF := im c9 hF
        obtain ⟨g10, hF⟩ := zg hF
        obtain ⟨g11, hF⟩ := zg hF
        obtain ⟨_, rfl⟩ := zr hF
        exact ((((frrN h).tr (nf_X12_in e2)).tr (nf_X12_in e6)).tr (nf_X12_in e8))
    · have hF := im c7 hF
      obtain ⟨_, rfl⟩ := zr hF
      exact (((frrN h).tr (nf_X12_in e2)).tr (nf_X12_in e6))
theorem nf_X12_trace_ {l0 l1 l2 l3 : Int} {h : zH} {r : Int} {h' : zH} (hF : F_X12_trace_ l0 l1 l2 l3 h = some (r, h')) : FrN h h' := n_X12_trace__0 hF
theorem n_X12_giveBack__102b {ag49 : Int → Int → Int → zH → zO} {ag102 : Int → Int → Int → Int → zH → zO} (hag49 : ∀ (l0 l2 l3 : Int) (h : zH) (r : Int) (h' : zH), ag49 l0 l2 l3 h = some (r, h') → FrN h h') (hag102 : ∀ (l0 l2 l3 l4 : Int) (h : zH) (r : Int) (h' : zH), ag102 l0 l2 l3 l4 h = some (r, h') → FrN h h') {l0 l2 l3 l4 : Int} {h : zH} {r : Int} {h' : zH} (hF : F_X12_giveBack__102b ag49 ag102 l0 l2 l3 l4 h = some (r, h')) : FrN h h' := by
  unfold F_X12_giveBack__102b at hF
  by_cases c1 : 20 ≤ l4
  · have hF := ip c1 hF
    exact (frrN h).tr (hag49 _ _ _ _ _ _ hF)
  · have hF := im c1 hF
    obtain ⟨g2, hF⟩ := zg hF
    obtain ⟨g3, hF⟩ := zg hF
    obtain ⟨g4, hF⟩ := zg hF
    obtain ⟨g5, hF⟩ := zg hF
    exact (frpN (frrN h)).tr (hag102 _ _ _ _ _ _ _ hF)
theorem n_X12_giveBack__102 {ag49 : Int → Int → Int → zH → zO} (hag49 : ∀ (l0 l2 l3 : Int) (h : zH) (r : Int) (h' : zH), ag49 l0 l2 l3 h = some (r, h') → FrN h h') : ∀ (n : Nat) (l0 l2 l3 l4 : Int) (h : zH) (r : Int) (h' : zH), F_X12_giveBack__102 ag49 n l0 l2 l3 l4 h = some (r, h') → FrN h h'
  | 0, _, _, _, _, _, _, _, hF => by cases hF
  | n + 1, _, _, _, _, _, _, _, hF => n_X12_giveBack__102b hag49 (n_X12_giveBack__102 hag49 n) hF
theorem n_X12_giveBack__49b {ag49 : Int → Int → Int → zH → zO} (hag49 : ∀ (l0 l2 l3 : Int) (h : zH) (r : Int) (h' : zH), ag49 l0 l2 l3 h = some (r, h') → FrN h h') {l0 l2 l3 : Int} {h : zH} {r : Int} {h' : zH} (hF : F_X12_giveBack__49b ag49 l0 l2 l3 h = some (r, h')) : FrN h h' := by
  unfold F_X12_giveBack__49b at hF
  obtain ⟨g1, hF⟩ := zg hF
  by_cases c2 : gt h 12 l0 62 ≤ l3
  · have hF := ip c2 hF
    by_cases c3 : l2 = 0
    · have hF := ip c3 hF
      obtain ⟨_, rfl⟩ := zr hF
      exact (frrN h)
    · have hF := im c3 hF
      obtain ⟨_, rfl⟩ := zr hF
      exact (frrN h)
  · have hF := im c2 hF
    obtain ⟨g4, hF⟩ := zg hF
    obtain ⟨g5, hF⟩ := zg hF
    obtain ⟨g6, hF⟩ := zg hF
    obtain ⟨g7, hF⟩ := zg hF
    have hF := zl_e hF
    have fk8 : FrN h (pt (pt h 89 (gt h 12 l0 63) l3 (gt h 89 (gt h 12 l0 63) (wI (l3 + 1)))) 90 (gt (pt h 89 (gt h 12 l0 63) l3 (gt h 89 (gt h 12 l0 63) (wI (l3 + 1)))) 12 l0 64) l3 (gt (pt h 89 (gt h 12 l0 63) l3 (gt h 89 (gt h 12 l0 63) (wI (l3 + 1)))) 90 (gt (pt h 89 (gt h 12 l0 63) l3 (gt h 89 (gt h 12 l0 63) (wI (l3 + 1)))) 12 l0 64) (wI (l3 + 1)))) := (frpN (frpN (frrN h)))
    generalize pt (pt h 89 (gt h 12 l0 63) l3 (gt h 89 (gt h 12 l0 63) (wI (l3 + 1)))) 90 (gt (pt h 89 (gt h 12 l0 63) l3 (gt h 89 (gt h 12 l0 63) (wI (l3 + 1)))) 12 l0 64) l3 (gt (pt h 89 (gt h 12 l0 63) l3 (gt h 89 (gt h 12 l0 63) (wI (l3 + 1)))) 90 (gt (pt h 89 (gt h 12 l0 63) l3 (gt h 89 (gt h 12 l0 63) (wI (l3 + 1)))) 12 l0 64) (wI (l3 + 1))) = k8 at hF fk8
    obtain ⟨g9, hF⟩ := zg hF
    exact (frpN fk8).tr (n_X12_giveBack__102 hag49 _ _ _ _ _ _ _ _ hF)
theorem n_X12_giveBack__49 : ∀ (n : Nat) (l0 l2 l3 : Int) (h : zH) (r : Int) (h' : zH), F_X12_giveBack__49 n l0 l2 l3 h = some (r, h') → FrN h h'
  | 0, _, _, _, _, _, _, hF => by cases hF
  | n + 1, _, _, _, _, _, _, hF => n_X12_giveBack__49b (n_X12_giveBack__49 n) hF
theorem n_X12_giveBack__0 {l0 l1 : Int} {h : zH} {r : Int} {h' : zH} (hF : F_X12_giveBack__0 l0 l1 h = some (r, h')) : FrN h h' := by
  unfold F_X12_giveBack__0 at hF
  obtain ⟨g1, hF⟩ := zg hF
  obtain ⟨r2, h2, e2, hF⟩ := zb_some hF
  by_cases c3 : r2 ≠ 0
  · have hF := ip c3 hF
    obtain ⟨g4, hF⟩ := zg hF
    obtain ⟨g5, hF⟩ := zg hF
    obtain ⟨g6, hF⟩ := zg hF
    obtain ⟨r7, h7, e7, hF⟩ := zb_some hF
    exact (frpN (((frrN h).tr (nf_X12_in e2)).tr (nf_X12_comesBack e7))).tr (n_X12_giveBack__49 _ _ _ _ _ _ _ hF)
  · have hF := im c3 hF
    obtain ⟨_, rfl⟩ := zr hF
    exact ((frrN h).tr (nf_X12_in e2))
theorem nf_X12_giveBack_ {l0 l1 : Int} {h : zH} {r : Int} {h' : zH} (hF : F_X12_giveBack_ l0 l1 h = some (r, h')) : FrN h h' := n_X12_giveBack__0 hF
theorem n_X12_cents_35b {ag35 : Int → Int → Int → Int → Int → zH → zO} (hag35 : ∀ (l0 l1 l2 l3 l5 : Int) (h : zH) (r : Int) (h' : zH), ag35 l0 l1 l2 l3 l5 h = some (r, h') → FrN h h') {l0 l1 l2 l3 l5 : Int} {h : zH} {r : Int} {h' : zH} (hF : F_X12_cents_35b ag35 l0 l1 l2 l3 l5 h = some (r, h')) : FrN h h' := by
  unfold F_X12_cents_35b at hF
  obtain ⟨g1, hF⟩ := zg hF
  by_cases c2 : gt h 12 l0 62 ≤ l5
  · have hF := ip c2 hF
    by_cases c3 : l2 ≠ 0
    · have hF := ip c3 hF
      obtain ⟨g4, hF⟩ := zg hF
      obtain ⟨g5, hF⟩ := zg hF
      obtain ⟨_, rfl⟩ := zr hF
      exact (frrN h)
    · have hF := im c3 hF
      obtain ⟨_, rfl⟩ := zr hF
      exact (frrN h)
  · have hF := im c2 hF
    obtain ⟨g6, hF⟩ := zg hF
    obtain ⟨g7, hF⟩ := zg hF
    by_cases c8 : gt h 90 (gt h 12 l0 64) l5 ≠ l1
    · have hF := ip c8 hF
      exact (frrN h).tr (hag35 _ _ _ _ _ _ _ _ hF)
    · have hF := im c8 hF
      obtain ⟨g9, hF⟩ := zg hF
      obtain ⟨g10, hF⟩ := zg hF
      obtain ⟨g11, hF⟩ := zg hF
      exact (frrN h).tr (hag35 _ _ _ _ _ _ _ _ hF)
theorem n_X12_cents_35 : ∀ (n : Nat) (l0 l1 l2 l3 l5 : Int) (h : zH) (r : Int) (h' : zH), F_X12_cents_35 n l0 l1 l2 l3 l5 h = some (r, h') → FrN h h'
  | 0, _, _, _, _, _, _, _, _, hF => by cases hF
  | n + 1, _, _, _, _, _, _, _, _, hF => n_X12_cents_35b (n_X12_cents_35 n) hF
theorem n_X12_cents_0 {l0 l1 l2 : Int} {h : zH} {r : Int} {h' : zH} (hF : F_X12_cents_0 l0 l1 l2 h = some (r, h')) : FrN h h' := by
  unfold F_X12_cents_0 at hF
  obtain ⟨r1, h1, e1, hF⟩ := zb_some hF
  by_cases c2 : r1 ≠ 0
  · have hF := ip c2 hF
    obtain ⟨r3, h3, e3, hF⟩ := zb_some hF
    by_cases c4 : r3 ≠ 0
    · have hF := ip c4 hF
      exact (((frrN h).tr (nf_X12_in e1)).tr (nf_X12_in e3)).tr (n_X12_cents_35 _ _ _ _ _ _ _ _ _ hF)
    · have hF := im c4 hF
      obtain ⟨_, rfl⟩ := zr hF
      exact (((frrN h).tr (nf_X12_in e1)).tr (nf_X12_in e3))
  · have hF := im c2 hF
    obtain ⟨_, rfl⟩ := zr hF
    exact ((frrN h).tr (nf_X12_in e1))
theorem nf_X12_cents {l0 l1 l2 : Int} {h : zH} {r : Int} {h' : zH} (hF : F_X12_cents l0 l1 l2 h = some (r, h')) : FrN h h' := n_X12_cents_0 hF
theorem n_X12_log_0 {l0 l1 l2 : Int} {h : zH} {r : Int} {h' : zH} (hF : F_X12_log_0 l0 l1 l2 h = some (r, h')) : FrN h h' := by
  unfold F_X12_log_0 at hF
  obtain ⟨r1, h1, e1, hF⟩ := zb_some hF
  by_cases c2 : r1 ≠ 0
  · have hF := ip c2 hF
    obtain ⟨g3, hF⟩ := zg hF
    by_cases c4 : 60 ≤ gt h1 12 l0 12
    · have hF := ip c4 hF
      obtain ⟨r5, h5, e5, hF⟩ := zb_some hF
      by_cases c6 : r5 ≠ 0
      · have hF := ip c6 hF
        obtain ⟨g7, hF⟩ := zg hF
        by_cases c8 : l2 ≠ 0
        · have hF := ip c8 hF
          by_cases c9 : l2 ≠ 1
          · have hF := ip c9 hF
            obtain ⟨g10, hF⟩ := zg hF
            obtain ⟨g11, hF⟩ := zg hF
            obtain ⟨_, rfl⟩ := zr hF
            exact (((frrN h).tr (nf_X12_in e1)).tr (nf_X12_in e5))
          · have hF := im c9 hF
            obtain ⟨g12, hF⟩ := zg hF
            obtain ⟨g13, hF⟩ := zg hF
            obtain ⟨_, rfl⟩ := zr hF
            exact (((frrN h).tr (nf_X12_in e1)).tr (nf_X12_in e5))
        · have hF := im c8 hF
          obtain ⟨g14, hF⟩ := zg hF
          obtain ⟨g15, hF⟩ := zg hF
          obtain ⟨_, rfl⟩ := zr hF
          exact (((frrN h).tr (nf_X12_in e1)).tr (nf_X12_in e5))
      · have hF := im c6 hF
        obtain ⟨_, rfl⟩ := zr hF
        exact (((frrN h).tr (nf_X12_in e1)).tr (nf_X12_in e5))
    · have hF := im c4 hF
      obtain ⟨r16, h16, e16, hF⟩ := zb_some hF
      by_cases c17 : r16 ≠ 0
      · have hF := ip c17 hF
        obtain ⟨g18, hF⟩ := zg hF
        by_cases c19 : l2 ≠ 0
        · have hF := ip c19 hF
          by_cases c20 : l2 ≠ 1
          · have hF := ip c20 hF
            obtain ⟨g21, hF⟩ := zg hF
            obtain ⟨g22, hF⟩ := zg hF
            obtain ⟨_, rfl⟩ := zr hF
            exact (((frrN h).tr (nf_X12_in e1)).tr (nf_X12_in e16))
          · have hF := im c20 hF
            obtain ⟨g23, hF⟩ := zg hF
            obtain ⟨g24, hF⟩ := zg hF
            obtain ⟨_, rfl⟩ := zr hF
            exact (((frrN h).tr (nf_X12_in e1)).tr (nf_X12_in e16))
        · have hF := im c19 hF
          obtain ⟨g25, hF⟩ := zg hF
          obtain ⟨g26, hF⟩ := zg hF
          obtain ⟨_, rfl⟩ := zr hF
          exact (((frrN h).tr (nf_X12_in e1)).tr (nf_X12_in e16))
      · have hF := im c17 hF
        obtain ⟨_, rfl⟩ := zr hF
        exact (((frrN h).tr (nf_X12_in e1)).tr (nf_X12_in e16))
  · have hF := im c2 hF
    obtain ⟨_, rfl⟩ := zr hF
    exact ((frrN h).tr (nf_X12_in e1))
theorem nf_X12_log {l0 l1 l2 : Int} {h : zH} {r : Int} {h' : zH} (hF : F_X12_log l0 l1 l2 h = some (r, h')) : FrN h h' := n_X12_log_0 hF
