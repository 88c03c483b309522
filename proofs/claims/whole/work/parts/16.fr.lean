/-- what the class leaves: the reference, the statics -/
def FrR (h h' : zH) : Prop := ∀ c, (c = 12 ∨ 50 ≤ c) → (cn h' c = cn h c ∧ gt h' c = gt h c)
/-- what the reference leaves: the class, the statics -/
def FrC (h h' : zH) : Prop := ∀ c, ((c ≠ 12 ∧ c < 50) ∨ 100 ≤ c) → (cn h' c = cn h c ∧ gt h' c = gt h c)
theorem FrR.tr {a b c : zH} (h : FrR a b) (k : FrR b c) : FrR a c := fun x hx => ⟨(k x hx).1.trans (h x hx).1, (k x hx).2.trans (h x hx).2⟩
theorem FrC.tr {a b c : zH} (h : FrC a b) (k : FrC b c) : FrC a c := fun x hx => ⟨(k x hx).1.trans (h x hx).1, (k x hx).2.trans (h x hx).2⟩
theorem gt_pt_f {h : zH} {c x : Nat} {i j v : Int} (hx : x ≠ c) : gt (pt h c i j v) x = gt h x := by
  funext a b; rw [gt_pt, if_neg fun z => hx z.1]
theorem gt_nw_f {h : zH} {c x sz : Nat} (hx : x ≠ c) : gt (nw h c sz) x = gt h x := by
  funext a b; rw [gt_nw, if_neg fun z => hx z.1]
theorem frrR (h : zH) : FrR h h := fun _ _ => ⟨rfl, rfl⟩
theorem frpR {a h : zH} {c : Nat} {i j v : Int} (hc : c ≠ 12 ∧ c < 50) (k : FrR a h) : FrR a (pt h c i j v) := fun x hx => ⟨(k x hx).1, by rw [gt_pt_f (by omega)]; exact (k x hx).2⟩
theorem frnR {a h : zH} {c sz : Nat} (hc : c ≠ 12 ∧ c < 50) (k : FrR a h) : FrR a (nw h c sz) := fun x hx => ⟨by rw [cn_nw, if_neg (by omega)]; exact (k x hx).1, by rw [gt_nw_f (by omega)]; exact (k x hx).2⟩
theorem frrC (h : zH) : FrC h h := fun _ _ => ⟨rfl, rfl⟩
theorem frpC {a h : zH} {c : Nat} {i j v : Int} (hc : c = 12 ∨ (50 ≤ c ∧ c < 100)) (k : FrC a h) : FrC a (pt h c i j v) := fun x hx => ⟨(k x hx).1, by rw [gt_pt_f (by omega)]; exact (k x hx).2⟩
theorem frnC {a h : zH} {c sz : Nat} (hc : c = 12 ∨ (50 ≤ c ∧ c < 100)) (k : FrC a h) : FrC a (nw h c sz) := fun x hx => ⟨by rw [cn_nw, if_neg (by omega)]; exact (k x hx).1, by rw [gt_nw_f (by omega)]; exact (k x hx).2⟩
theorem f_X7_init_0 {l0 : Int} {h : zH} {r : Int} {h' : zH} (hF : F_X7_init_0 l0 h = some (r, h')) : FrR h h' := by
  unfold F_X7_init_0 at hF
  obtain ⟨g1, hF⟩ := zg hF
  have hF := zl_e hF
  have fk2 : FrR h (pt (nw (pt (nw (pt (nw h 36 30) 7 l0 0 (cn h 36)) 37 30) 7 l0 1 (cn (pt (nw h 36 30) 7 l0 0 (cn h 36)) 37)) 38 30) 7 l0 2 (cn (pt (nw (pt (nw h 36 30) 7 l0 0 (cn h 36)) 37 30) 7 l0 1 (cn (pt (nw h 36 30) 7 l0 0 (cn h 36)) 37)) 38)) := (frpR (by decide) (frnR (by decide) (frpR (by decide) (frnR (by decide) (frpR (by decide) (frnR (by decide) (frrR h)))))))
  generalize pt (nw (pt (nw (pt (nw h 36 30) 7 l0 0 (cn h 36)) 37 30) 7 l0 1 (cn (pt (nw h 36 30) 7 l0 0 (cn h 36)) 37)) 38 30) 7 l0 2 (cn (pt (nw (pt (nw h 36 30) 7 l0 0 (cn h 36)) 37 30) 7 l0 1 (cn (pt (nw h 36 30) 7 l0 0 (cn h 36)) 37)) 38) = k2 at hF fk2
  obtain ⟨_, rfl⟩ := zr hF
  exact fk2
theorem fr_X7_init {l0 : Int} {h : zH} {r : Int} {h' : zH} (hF : F_X7_init l0 h = some (r, h')) : FrR h h' := f_X7_init_0 hF
theorem f_X5_init_0 {l0 : Int} {h : zH} {r : Int} {h' : zH} (hF : F_X5_init_0 l0 h = some (r, h')) : FrR h h' := by
  unfold F_X5_init_0 at hF
  obtain ⟨g1, hF⟩ := zg hF
  have hF := zl_e hF
  have fk2 : FrR h (pt (nw (pt (nw (pt (nw h 31 60) 5 l0 0 (cn h 31)) 32 60) 5 l0 1 (cn (pt (nw h 31 60) 5 l0 0 (cn h 31)) 32)) 33 60) 5 l0 2 (cn (pt (nw (pt (nw h 31 60) 5 l0 0 (cn h 31)) 32 60) 5 l0 1 (cn (pt (nw h 31 60) 5 l0 0 (cn h 31)) 32)) 33)) := (frpR (by decide) (frnR (by decide) (frpR (by decide) (frnR (by decide) (frpR (by decide) (frnR (by decide) (frrR h)))))))
  generalize pt (nw (pt (nw (pt (nw h 31 60) 5 l0 0 (cn h 31)) 32 60) 5 l0 1 (cn (pt (nw h 31 60) 5 l0 0 (cn h 31)) 32)) 33 60) 5 l0 2 (cn (pt (nw (pt (nw h 31 60) 5 l0 0 (cn h 31)) 32 60) 5 l0 1 (cn (pt (nw h 31 60) 5 l0 0 (cn h 31)) 32)) 33) = k2 at hF fk2
  obtain ⟨_, rfl⟩ := zr hF
  exact (frpR (by decide) fk2)
theorem fr_X5_init {l0 : Int} {h : zH} {r : Int} {h' : zH} (hF : F_X5_init l0 h = some (r, h')) : FrR h h' := f_X5_init_0 hF
theorem f_X3_init_0 {l0 : Int} {h : zH} {r : Int} {h' : zH} (hF : F_X3_init_0 l0 h = some (r, h')) : FrR h h' := by
  unfold F_X3_init_0 at hF
  obtain ⟨g1, hF⟩ := zg hF
  have hF := zl_e hF
  have fk2 : FrR h (pt (nw (pt (nw (pt (nw h 27 60) 3 l0 0 (cn h 27)) 28 60) 3 l0 2 (cn (pt (nw h 27 60) 3 l0 0 (cn h 27)) 28)) 29 60) 3 l0 4 (cn (pt (nw (pt (nw h 27 60) 3 l0 0 (cn h 27)) 28 60) 3 l0 2 (cn (pt (nw h 27 60) 3 l0 0 (cn h 27)) 28)) 29)) := (frpR (by decide) (frnR (by decide) (frpR (by decide) (frnR (by decide) (frpR (by decide) (frnR (by decide) (frrR h)))))))
  generalize pt (nw (pt (nw (pt (nw h 27 60) 3 l0 0 (cn h 27)) 28 60) 3 l0 2 (cn (pt (nw h 27 60) 3 l0 0 (cn h 27)) 28)) 29 60) 3 l0 4 (cn (pt (nw (pt (nw h 27 60) 3 l0 0 (cn h 27)) 28 60) 3 l0 2 (cn (pt (nw h 27 60) 3 l0 0 (cn h 27)) 28)) 29) = k2 at hF fk2
  obtain ⟨g4, hF⟩ := zg hF
  obtain ⟨r3, h3, e3, hF⟩ := zb_some hF
  obtain ⟨g6, hF⟩ := zg hF
  obtain ⟨r5, h5, e5, hF⟩ := zb_some hF
  obtain ⟨_, rfl⟩ := zr hF
  exact (frpR (by decide) ((frnR (by decide) (frpR (by decide) ((frnR (by decide) (frpR (by decide) (frnR (by decide) fk2))).tr (fr_X7_init e3)))).tr (fr_X5_init e5)))
theorem fr_X3_init {l0 : Int} {h : zH} {r : Int} {h' : zH} (hF : F_X3_init l0 h = some (r, h')) : FrR h h' := f_X3_init_0 hF
theorem f_X2_init_0 {l0 : Int} {h : zH} {r : Int} {h' : zH} (hF : F_X2_init_0 l0 h = some (r, h')) : FrR h h' := by
  unfold F_X2_init_0 at hF
  obtain ⟨g1, hF⟩ := zg hF
  have hF := zl_e hF
  have fk2 : FrR h (pt (nw (pt (nw (pt (nw h 21 16) 2 l0 0 (cn h 21)) 22 16) 2 l0 1 (cn (pt (nw h 21 16) 2 l0 0 (cn h 21)) 22)) 23 16) 2 l0 2 (cn (pt (nw (pt (nw h 21 16) 2 l0 0 (cn h 21)) 22 16) 2 l0 1 (cn (pt (nw h 21 16) 2 l0 0 (cn h 21)) 22)) 23)) := (frpR (by decide) (frnR (by decide) (frpR (by decide) (frnR (by decide) (frpR (by decide) (frnR (by decide) (frrR h)))))))
  generalize pt (nw (pt (nw (pt (nw h 21 16) 2 l0 0 (cn h 21)) 22 16) 2 l0 1 (cn (pt (nw h 21 16) 2 l0 0 (cn h 21)) 22)) 23 16) 2 l0 2 (cn (pt (nw (pt (nw h 21 16) 2 l0 0 (cn h 21)) 22 16) 2 l0 1 (cn (pt (nw h 21 16) 2 l0 0 (cn h 21)) 22)) 23) = k2 at hF fk2
  have hF := zl_e hF
  have fk3 : FrR h (pt (nw (pt (nw (pt (nw k2 24 16) 2 l0 3 (cn k2 24)) 25 16) 2 l0 4 (cn (pt (nw k2 24 16) 2 l0 3 (cn k2 24)) 25)) 26 16) 2 l0 5 (cn (pt (nw (pt (nw k2 24 16) 2 l0 3 (cn k2 24)) 25 16) 2 l0 4 (cn (pt (nw k2 24 16) 2 l0 3 (cn k2 24)) 25)) 26)) := (frpR (by decide) (frnR (by decide) (frpR (by decide) (frnR (by decide) (frpR (by decide) (frnR (by decide) fk2))))))
  generalize pt (nw (pt (nw (pt (nw k2 24 16) 2 l0 3 (cn k2 24)) 25 16) 2 l0 4 (cn (pt (nw k2 24 16) 2 l0 3 (cn k2 24)) 25)) 26 16) 2 l0 5 (cn (pt (nw (pt (nw k2 24 16) 2 l0 3 (cn k2 24)) 25 16) 2 l0 4 (cn (pt (nw k2 24 16) 2 l0 3 (cn k2 24)) 25)) 26) = k3 at hF fk3
  obtain ⟨_, rfl⟩ := zr hF
  exact fk3
theorem fr_X2_init {l0 : Int} {h : zH} {r : Int} {h' : zH} (hF : F_X2_init l0 h = some (r, h')) : FrR h h' := f_X2_init_0 hF
theorem f_X10_init_0 {l0 : Int} {h : zH} {r : Int} {h' : zH} (hF : F_X10_init_0 l0 h = some (r, h')) : FrR h h' := by
  unfold F_X10_init_0 at hF
  obtain ⟨g1, hF⟩ := zg hF
  have hF := zl_e hF
  have fk2 : FrR h (pt (nw (pt (nw (pt (nw h 43 40) 10 l0 0 (cn h 43)) 44 40) 10 l0 1 (cn (pt (nw h 43 40) 10 l0 0 (cn h 43)) 44)) 45 40) 10 l0 2 (cn (pt (nw (pt (nw h 43 40) 10 l0 0 (cn h 43)) 44 40) 10 l0 1 (cn (pt (nw h 43 40) 10 l0 0 (cn h 43)) 44)) 45)) := (frpR (by decide) (frnR (by decide) (frpR (by decide) (frnR (by decide) (frpR (by decide) (frnR (by decide) (frrR h)))))))
  generalize pt (nw (pt (nw (pt (nw h 43 40) 10 l0 0 (cn h 43)) 44 40) 10 l0 1 (cn (pt (nw h 43 40) 10 l0 0 (cn h 43)) 44)) 45 40) 10 l0 2 (cn (pt (nw (pt (nw h 43 40) 10 l0 0 (cn h 43)) 44 40) 10 l0 1 (cn (pt (nw h 43 40) 10 l0 0 (cn h 43)) 44)) 45) = k2 at hF fk2
  have hF := zl_e hF
  have fk3 : FrR h (pt (nw (pt (nw (pt (nw k2 46 40) 10 l0 3 (cn k2 46)) 47 8) 10 l0 7 (cn (pt (nw k2 46 40) 10 l0 3 (cn k2 46)) 47)) 48 8) 10 l0 8 (cn (pt (nw (pt (nw k2 46 40) 10 l0 3 (cn k2 46)) 47 8) 10 l0 7 (cn (pt (nw k2 46 40) 10 l0 3 (cn k2 46)) 47)) 48)) := (frpR (by decide) (frnR (by decide) (frpR (by decide) (frnR (by decide) (frpR (by decide) (frnR (by decide) fk2))))))
  generalize pt (nw (pt (nw (pt (nw k2 46 40) 10 l0 3 (cn k2 46)) 47 8) 10 l0 7 (cn (pt (nw k2 46 40) 10 l0 3 (cn k2 46)) 47)) 48 8) 10 l0 8 (cn (pt (nw (pt (nw k2 46 40) 10 l0 3 (cn k2 46)) 47 8) 10 l0 7 (cn (pt (nw k2 46 40) 10 l0 3 (cn k2 46)) 47)) 48) = k3 at hF fk3
  obtain ⟨_, rfl⟩ := zr hF
  exact fk3
theorem fr_X10_init {l0 : Int} {h : zH} {r : Int} {h' : zH} (hF : F_X10_init l0 h = some (r, h')) : FrR h h' := f_X10_init_0 hF
theorem f_X1_init_0 {l0 l1 : Int} {h : zH} {r : Int} {h' : zH} (hF : F_X1_init_0 l0 l1 h = some (r, h')) : FrR h h' := by
  unfold F_X1_init_0 at hF
  obtain ⟨g1, hF⟩ := zg hF
  obtain ⟨_, rfl⟩ := zr hF
  exact (frpR (by decide) (frpR (by decide) (frnR (by decide) (frrR h))))
theorem fr_X1_init {l0 l1 : Int} {h : zH} {r : Int} {h' : zH} (hF : F_X1_init l0 l1 h = some (r, h')) : FrR h h' := f_X1_init_0 hF
theorem f_X0_init_0 {l0 : Int} {h : zH} {r : Int} {h' : zH} (hF : F_X0_init_0 l0 h = some (r, h')) : FrR h h' := by
  unfold F_X0_init_0 at hF
  obtain ⟨g1, hF⟩ := zg hF
  obtain ⟨_, rfl⟩ := zr hF
  exact (frrR h)
theorem fr_X0_init {l0 : Int} {h : zH} {r : Int} {h' : zH} (hF : F_X0_init l0 h = some (r, h')) : FrR h h' := f_X0_init_0 hF
theorem f_X9_init_0 {l0 : Int} {h : zH} {r : Int} {h' : zH} (hF : F_X9_init_0 l0 h = some (r, h')) : FrR h h' := by
  unfold F_X9_init_0 at hF
  obtain ⟨g1, hF⟩ := zg hF
  obtain ⟨_, rfl⟩ := zr hF
  exact (frrR h)
theorem fr_X9_init {l0 : Int} {h : zH} {r : Int} {h' : zH} (hF : F_X9_init l0 h = some (r, h')) : FrR h h' := f_X9_init_0 hF
theorem f_X4_init_0 {l0 : Int} {h : zH} {r : Int} {h' : zH} (hF : F_X4_init_0 l0 h = some (r, h')) : FrR h h' := by
  unfold F_X4_init_0 at hF
  obtain ⟨g1, hF⟩ := zg hF
  obtain ⟨_, rfl⟩ := zr hF
  exact (frrR h)
theorem fr_X4_init {l0 : Int} {h : zH} {r : Int} {h' : zH} (hF : F_X4_init l0 h = some (r, h')) : FrR h h' := f_X4_init_0 hF
theorem f_X8_init_159b {ag159 : Int → Int → zH → zO} (hag159 : ∀ (l0 l4 : Int) (h : zH) (r : Int) (h' : zH), ag159 l0 l4 h = some (r, h') → FrR h h') {l0 l4 : Int} {h : zH} {r : Int} {h' : zH} (hF : F_X8_init_159b ag159 l0 l4 h = some (r, h')) : FrR h h' := by
  unfold F_X8_init_159b at hF
  obtain ⟨g1, hF⟩ := zg hF
  obtain ⟨g2, hF⟩ := zg hF
  by_cases c3 : 160 ≤ l4
  · have hF := ip c3 hF
    obtain ⟨_, rfl⟩ := zr hF
    exact (frrR h)
  · have hF := im c3 hF
    obtain ⟨g5, hF⟩ := zg hF
    obtain ⟨r4, h4, e4, hF⟩ := zb_some hF
    obtain ⟨g6, hF⟩ := zg hF
    exact (frpR (by decide) ((frnR (by decide) (frrR h)).tr (fr_X4_init e4))).tr (hag159 _ _ _ _ _ hF)
theorem f_X8_init_159 : ∀ (n : Nat) (l0 l4 : Int) (h : zH) (r : Int) (h' : zH), F_X8_init_159 n l0 l4 h = some (r, h') → FrR h h'
  | 0, _, _, _, _, _, hF => by cases hF
  | n + 1, _, _, _, _, _, hF => f_X8_init_159b (f_X8_init_159 n) hF
theorem f_X8_init_112b {ag112 : Int → Int → zH → zO} (hag112 : ∀ (l0 l4 : Int) (h : zH) (r : Int) (h' : zH), ag112 l0 l4 h = some (r, h') → FrR h h') {l0 l4 : Int} {h : zH} {r : Int} {h' : zH} (hF : F_X8_init_112b ag112 l0 l4 h = some (r, h')) : FrR h h' := by
  unfold F_X8_init_112b at hF
  obtain ⟨g1, hF⟩ := zg hF
  obtain ⟨g2, hF⟩ := zg hF
  by_cases c3 : 91 ≤ l4
  · have hF := ip c3 hF
    exact (frrR h).tr (f_X8_init_159 _ _ _ _ _ _ hF)
  · have hF := im c3 hF
    obtain ⟨g5, hF⟩ := zg hF
    obtain ⟨r4, h4, e4, hF⟩ := zb_some hF
    obtain ⟨g6, hF⟩ := zg hF
    obtain ⟨g8, hF⟩ := zg hF
    obtain ⟨r7, h7, e7, hF⟩ := zb_some hF
    obtain ⟨g9, hF⟩ := zg hF
    exact (frpR (by decide) ((frnR (by decide) (frpR (by decide) ((frnR (by decide) (frrR h)).tr (fr_X0_init e4)))).tr (fr_X9_init e7))).tr (hag112 _ _ _ _ _ hF)
theorem f_X8_init_112 : ∀ (n : Nat) (l0 l4 : Int) (h : zH) (r : Int) (h' : zH), F_X8_init_112 n l0 l4 h = some (r, h') → FrR h h'
  | 0, _, _, _, _, _, hF => by cases hF
  | n + 1, _, _, _, _, _, hF => f_X8_init_112b (f_X8_init_112 n) hF
theorem f_X8_init_78b {ag78 : Int → Int → Int → zH → zO} (hag78 : ∀ (l0 l3 l4 : Int) (h : zH) (r : Int) (h' : zH), ag78 l0 l3 l4 h = some (r, h') → FrR h h') {l0 l3 l4 : Int} {h : zH} {r : Int} {h' : zH} (hF : F_X8_init_78b ag78 l0 l3 l4 h = some (r, h')) : FrR h h' := by
  unfold F_X8_init_78b at hF
  obtain ⟨g1, hF⟩ := zg hF
  obtain ⟨g2, hF⟩ := zg hF
  by_cases c3 : 11 ≤ l4
  · have hF := ip c3 hF
    exact (frrR h).tr (f_X8_init_112 _ _ _ _ _ _ hF)
  · have hF := im c3 hF
    obtain ⟨g5, hF⟩ := zg hF
    obtain ⟨r4, h4, e4, hF⟩ := zb_some hF
    obtain ⟨g6, hF⟩ := zg hF
    exact (frpR (by decide) ((frnR (by decide) (frrR h)).tr (fr_X1_init e4))).tr (hag78 _ _ _ _ _ _ hF)
theorem f_X8_init_78 : ∀ (n : Nat) (l0 l3 l4 : Int) (h : zH) (r : Int) (h' : zH), F_X8_init_78 n l0 l3 l4 h = some (r, h') → FrR h h'
  | 0, _, _, _, _, _, _, hF => by cases hF
  | n + 1, _, _, _, _, _, _, hF => f_X8_init_78b (f_X8_init_78 n) hF
theorem f_X8_init_0 {l0 l1 l2 : Int} {h : zH} {r : Int} {h' : zH} (hF : F_X8_init_0 l0 l1 l2 h = some (r, h')) : FrR h h' := by
  unfold F_X8_init_0 at hF
  obtain ⟨g1, hF⟩ := zg hF
  have hF := zl_e hF
  have fk2 : FrR h (pt (nw (pt (nw (pt (nw h 39 11) 8 l0 2 (cn h 39)) 40 91) 8 l0 4 (cn (pt (nw h 39 11) 8 l0 2 (cn h 39)) 40)) 41 91) 8 l0 6 (cn (pt (nw (pt (nw h 39 11) 8 l0 2 (cn h 39)) 40 91) 8 l0 4 (cn (pt (nw h 39 11) 8 l0 2 (cn h 39)) 40)) 41)) := (frpR (by decide) (frnR (by decide) (frpR (by decide) (frnR (by decide) (frpR (by decide) (frnR (by decide) (frrR h)))))))
  generalize pt (nw (pt (nw (pt (nw h 39 11) 8 l0 2 (cn h 39)) 40 91) 8 l0 4 (cn (pt (nw h 39 11) 8 l0 2 (cn h 39)) 40)) 41 91) 8 l0 6 (cn (pt (nw (pt (nw h 39 11) 8 l0 2 (cn h 39)) 40 91) 8 l0 4 (cn (pt (nw h 39 11) 8 l0 2 (cn h 39)) 40)) 41) = k2 at hF fk2
  obtain ⟨g4, hF⟩ := zg hF
  obtain ⟨r3, h3, e3, hF⟩ := zb_some hF
  obtain ⟨g6, hF⟩ := zg hF
  obtain ⟨r5, h5, e5, hF⟩ := zb_some hF
  exact ((frnR (by decide) (frpR (by decide) (frpR (by decide) (frpR (by decide) (frpR (by decide) ((frnR (by decide) (frpR (by decide) (frnR (by decide) fk2))).tr (fr_X2_init e3))))))).tr (fr_X10_init e5)).tr (f_X8_init_78 _ _ _ _ _ _ _ hF)
theorem fr_X8_init {l0 l1 l2 : Int} {h : zH} {r : Int} {h' : zH} (hF : F_X8_init l0 l1 l2 h = some (r, h')) : FrR h h' := f_X8_init_0 hF
theorem f_X11_init_0 {l0 : Int} {h : zH} {r : Int} {h' : zH} (hF : F_X11_init_0 l0 h = some (r, h')) : FrR h h' := by
  unfold F_X11_init_0 at hF
  obtain ⟨g1, hF⟩ := zg hF
  obtain ⟨g3, hF⟩ := zg hF
  obtain ⟨r2, h2, e2, hF⟩ := zb_some hF
  obtain ⟨g5, hF⟩ := zg hF
  obtain ⟨r4, h4, e4, hF⟩ := zb_some hF
  obtain ⟨_, rfl⟩ := zr hF
  exact (frpR (by decide) ((frnR (by decide) (frpR (by decide) (frpR (by decide) (frnR (by decide) ((frnR (by decide) (frrR h)).tr (fr_X3_init e2)))))).tr (fr_X8_init e4)))
theorem fr_X11_init {l0 : Int} {h : zH} {r : Int} {h' : zH} (hF : F_X11_init l0 h = some (r, h')) : FrR h h' := f_X11_init_0 hF
theorem f_X11_within_0 {l0 l1 : Int} {h : zH} {r : Int} {h' : zH} (hF : F_X11_within_0 l0 l1 h = some (r, h')) : FrR h h' := by
  unfold F_X11_within_0 at hF
  by_cases c1 : l0 < 0
  · have hF := ip c1 hF
    obtain ⟨_, rfl⟩ := zr hF
    exact (frrR h)
  · have hF := im c1 hF
    by_cases c2 : l1 ≤ l0
    · have hF := ip c2 hF
      obtain ⟨_, rfl⟩ := zr hF
      exact (frrR h)
    · have hF := im c2 hF
      obtain ⟨_, rfl⟩ := zr hF
      exact (frrR h)
theorem fr_X11_within {l0 l1 : Int} {h : zH} {r : Int} {h' : zH} (hF : F_X11_within l0 l1 h = some (r, h')) : FrR h h' := f_X11_within_0 hF
theorem f_X6_init_0 {l0 l1 l2 l3 : Int} {h : zH} {r : Int} {h' : zH} (hF : F_X6_init_0 l0 l1 l2 l3 h = some (r, h')) : FrR h h' := by
  unfold F_X6_init_0 at hF
  obtain ⟨g1, hF⟩ := zg hF
  have hF := zl_e hF
  have fk2 : FrR h (pt (nw (pt (pt (pt h 6 l0 0 l1) 6 l0 1 l2) 6 l0 2 l3) 34 10) 6 l0 5 (cn (pt (pt (pt h 6 l0 0 l1) 6 l0 1 l2) 6 l0 2 l3) 34)) := (frpR (by decide) (frnR (by decide) (frpR (by decide) (frpR (by decide) (frpR (by decide) (frrR h))))))
  generalize pt (nw (pt (pt (pt h 6 l0 0 l1) 6 l0 1 l2) 6 l0 2 l3) 34 10) 6 l0 5 (cn (pt (pt (pt h 6 l0 0 l1) 6 l0 1 l2) 6 l0 2 l3) 34) = k2 at hF fk2
  obtain ⟨_, rfl⟩ := zr hF
  exact (frpR (by decide) (frnR (by decide) fk2))
theorem fr_X6_init {l0 l1 l2 l3 : Int} {h : zH} {r : Int} {h' : zH} (hF : F_X6_init l0 l1 l2 l3 h = some (r, h')) : FrR h h' := f_X6_init_0 hF
theorem f_X3_takeIn_0 {l0 l1 l2 : Int} {h : zH} {r : Int} {h' : zH} (hF : F_X3_takeIn_0 l0 l1 l2 h = some (r, h')) : FrR h h' := by
  unfold F_X3_takeIn_0 at hF
  obtain ⟨g1, hF⟩ := zg hF
  obtain ⟨r2, h2, e2, hF⟩ := zb_some hF
  by_cases c3 : r2 ≠ 0
  · have hF := ip c3 hF
    obtain ⟨g5, hF⟩ := zg hF
    obtain ⟨r4, h4, e4, hF⟩ := zb_some hF
    obtain ⟨g6, hF⟩ := zg hF
    obtain ⟨g7, hF⟩ := zg hF
    have hF := zl_e hF
    have fk8 : FrR h (pt (pt h4 27 (gt h2 3 l0 0) (gt h2 3 l0 1) (cn h2 6)) 3 l0 1 (wI ((gt (pt h4 27 (gt h2 3 l0 0) (gt h2 3 l0 1) (cn h2 6)) 3 l0 1) + 1))) := (frpR (by decide) (frpR (by decide) ((frnR (by decide) ((frrR h).tr (fr_X11_within e2))).tr (fr_X6_init e4))))
    generalize pt (pt h4 27 (gt h2 3 l0 0) (gt h2 3 l0 1) (cn h2 6)) 3 l0 1 (wI ((gt (pt h4 27 (gt h2 3 l0 0) (gt h2 3 l0 1) (cn h2 6)) 3 l0 1) + 1)) = k8 at hF fk8
    obtain ⟨_, rfl⟩ := zr hF
    exact fk8
  · have hF := im c3 hF
    obtain ⟨_, rfl⟩ := zr hF
    exact ((frrR h).tr (fr_X11_within e2))
theorem fr_X3_takeIn {l0 l1 l2 : Int} {h : zH} {r : Int} {h' : zH} (hF : F_X3_takeIn l0 l1 l2 h = some (r, h')) : FrR h h' := f_X3_takeIn_0 hF
theorem f_X11_part_0 {l0 l1 l2 : Int} {h : zH} {r : Int} {h' : zH} (hF : F_X11_part_0 l0 l1 l2 h = some (r, h')) : FrR h h' := by
  unfold F_X11_part_0 at hF
  obtain ⟨r1, h1, e1, hF⟩ := zb_some hF
  by_cases c2 : r1 = 0
  · have hF := ip c2 hF
    obtain ⟨_, rfl⟩ := zr hF
    exact ((frrR h).tr (fr_X11_within e1))
  · have hF := im c2 hF
    by_cases c3 : l2 < 0
    · have hF := ip c3 hF
      obtain ⟨_, rfl⟩ := zr hF
      exact ((frrR h).tr (fr_X11_within e1))
    · have hF := im c3 hF
      by_cases c4 : l2 ≤ 100000
      · have hF := ip c4 hF
        obtain ⟨g5, hF⟩ := zg hF
        obtain ⟨g7, hF⟩ := zg hF
        obtain ⟨r6, h6, e6, hF⟩ := zb_some hF
        obtain ⟨_, rfl⟩ := zr hF
        exact (((frrR h).tr (fr_X11_within e1)).tr (fr_X3_takeIn e6))
      · have hF := im c4 hF
        obtain ⟨_, rfl⟩ := zr hF
        exact ((frrR h).tr (fr_X11_within e1))
theorem fr_X11_part {l0 l1 l2 : Int} {h : zH} {r : Int} {h' : zH} (hF : F_X11_part l0 l1 l2 h = some (r, h')) : FrR h h' := f_X11_part_0 hF
theorem f_X3_find_0 {l0 l1 : Int} {h : zH} {r : Int} {h' : zH} (hF : F_X3_find_0 l0 l1 h = some (r, h')) : FrR h h' := by
  unfold F_X3_find_0 at hF
  obtain ⟨g1, hF⟩ := zg hF
  obtain ⟨r2, h2, e2, hF⟩ := zb_some hF
  by_cases c3 : r2 = 0
  · have hF := ip c3 hF
    obtain ⟨_, rfl⟩ := zr hF
    exact ((frrR h).tr (fr_X11_within e2))
  · have hF := im c3 hF
    obtain ⟨g4, hF⟩ := zg hF
    obtain ⟨g5, hF⟩ := zg hF
    obtain ⟨_, rfl⟩ := zr hF
    exact ((frrR h).tr (fr_X11_within e2))
theorem fr_X3_find {l0 l1 : Int} {h : zH} {r : Int} {h' : zH} (hF : F_X3_find l0 l1 h = some (r, h')) : FrR h h' := f_X3_find_0 hF
theorem f_X11_state_0 {l0 l1 : Int} {h : zH} {r : Int} {h' : zH} (hF : F_X11_state_0 l0 l1 h = some (r, h')) : FrR h h' := by
  unfold F_X11_state_0 at hF
  obtain ⟨g1, hF⟩ := zg hF
  obtain ⟨g3, hF⟩ := zg hF
  obtain ⟨r2, h2, e2, hF⟩ := zb_some hF
  by_cases c4 : r2 ≠ -1
  · have hF := ip c4 hF
    obtain ⟨g5, hF⟩ := zg hF
    obtain ⟨_, rfl⟩ := zr hF
    exact ((frrR h).tr (fr_X3_find e2))
  · have hF := im c4 hF
    obtain ⟨_, rfl⟩ := zr hF
    exact ((frrR h).tr (fr_X3_find e2))
theorem fr_X11_state {l0 l1 : Int} {h : zH} {r : Int} {h' : zH} (hF : F_X11_state l0 l1 h = some (r, h')) : FrR h h' := f_X11_state_0 hF
theorem f_X3_inCleaning_0 {l0 l1 : Int} {h : zH} {r : Int} {h' : zH} (hF : F_X3_inCleaning_0 l0 l1 h = some (r, h')) : FrR h h' := by
  unfold F_X3_inCleaning_0 at hF
  obtain ⟨g1, hF⟩ := zg hF
  obtain ⟨r2, h2, e2, hF⟩ := zb_some hF
  by_cases c3 : r2 = 0
  · have hF := ip c3 hF
    obtain ⟨_, rfl⟩ := zr hF
    exact ((frrR h).tr (fr_X11_within e2))
  · have hF := im c3 hF
    obtain ⟨g4, hF⟩ := zg hF
    obtain ⟨g5, hF⟩ := zg hF
    obtain ⟨_, rfl⟩ := zr hF
    exact ((frrR h).tr (fr_X11_within e2))
theorem fr_X3_inCleaning {l0 l1 : Int} {h : zH} {r : Int} {h' : zH} (hF : F_X3_inCleaning l0 l1 h = some (r, h')) : FrR h h' := f_X3_inCleaning_0 hF
theorem f_X3_cleanFirst_46b {ag46 : Int → Int → Int → zH → zO} (hag46 : ∀ (l0 l2 l3 : Int) (h : zH) (r : Int) (h' : zH), ag46 l0 l2 l3 h = some (r, h') → FrR h h') {l0 l2 l3 : Int} {h : zH} {r : Int} {h' : zH} (hF : F_X3_cleanFirst_46b ag46 l0 l2 l3 h = some (r, h')) : FrR h h' := by
  unfold F_X3_cleanFirst_46b at hF
  obtain ⟨g1, hF⟩ := zg hF
  by_cases c2 : gt h 3 l0 3 ≤ l3
  · have hF := ip c2 hF
    obtain ⟨_, rfl⟩ := zr hF
    exact (frpR (by decide) (frrR h))
  · have hF := im c2 hF
    obtain ⟨g3, hF⟩ := zg hF
    obtain ⟨g4, hF⟩ := zg hF
    obtain ⟨g5, hF⟩ := zg hF
    exact (frpR (by decide) (frrR h)).tr (hag46 _ _ _ _ _ _ hF)
theorem f_X3_cleanFirst_46 : ∀ (n : Nat) (l0 l2 l3 : Int) (h : zH) (r : Int) (h' : zH), F_X3_cleanFirst_46 n l0 l2 l3 h = some (r, h') → FrR h h'
  | 0, _, _, _, _, _, _, hF => by cases hF
  | n + 1, _, _, _, _, _, _, hF => f_X3_cleanFirst_46b (f_X3_cleanFirst_46 n) hF
theorem f_X3_cleanFirst_11b {ag11 : Int → Int → Int → zH → zO} (hag11 : ∀ (l0 l2 l3 : Int) (h : zH) (r : Int) (h' : zH), ag11 l0 l2 l3 h = some (r, h') → FrR h h') {l0 l2 l3 : Int} {h : zH} {r : Int} {h' : zH} (hF : F_X3_cleanFirst_11b ag11 l0 l2 l3 h = some (r, h')) : FrR h h' := by
  unfold F_X3_cleanFirst_11b at hF
  by_cases c1 : l2 ≤ l3
  · have hF := ip c1 hF
    exact (frrR h).tr (f_X3_cleanFirst_46 _ _ _ _ _ _ _ hF)
  · have hF := im c1 hF
    obtain ⟨g3, hF⟩ := zg hF
    obtain ⟨r2, h2, e2, hF⟩ := zb_some hF
    obtain ⟨r4, h4, e4, hF⟩ := zb_some hF
    by_cases c5 : r4 = -1
    · have hF := ip c5 hF
      exact (((frrR h).tr (fr_X3_inCleaning e2)).tr (fr_X3_find e4)).tr (hag11 _ _ _ _ _ _ hF)
    · have hF := im c5 hF
      obtain ⟨g6, hF⟩ := zg hF
      exact (frpR (by decide) (((frrR h).tr (fr_X3_inCleaning e2)).tr (fr_X3_find e4))).tr (hag11 _ _ _ _ _ _ hF)
theorem f_X3_cleanFirst_11 : ∀ (n : Nat) (l0 l2 l3 : Int) (h : zH) (r : Int) (h' : zH), F_X3_cleanFirst_11 n l0 l2 l3 h = some (r, h') → FrR h h'
  | 0, _, _, _, _, _, _, hF => by cases hF
  | n + 1, _, _, _, _, _, _, hF => f_X3_cleanFirst_11b (f_X3_cleanFirst_11 n) hF
theorem f_X3_cleanFirst_0 {l0 l1 : Int} {h : zH} {r : Int} {h' : zH} (hF : F_X3_cleanFirst_0 l0 l1 h = some (r, h')) : FrR h h' := by
  unfold F_X3_cleanFirst_0 at hF
  obtain ⟨g1, hF⟩ := zg hF
  exact (frrR h).tr (f_X3_cleanFirst_11 _ _ _ _ _ _ _ hF)
theorem fr_X3_cleanFirst {l0 l1 : Int} {h : zH} {r : Int} {h' : zH} (hF : F_X3_cleanFirst l0 l1 h = some (r, h')) : FrR h h' := f_X3_cleanFirst_0 hF
theorem f_X11_clean_0 {l0 l1 : Int} {h : zH} {r : Int} {h' : zH} (hF : F_X11_clean_0 l0 l1 h = some (r, h')) : FrR h h' := by
  unfold F_X11_clean_0 at hF
  by_cases c1 : l1 < 0
  · have hF := ip c1 hF
    obtain ⟨_, rfl⟩ := zr hF
    exact (frrR h)
  · have hF := im c1 hF
    by_cases c2 : l1 ≤ 60
    · have hF := ip c2 hF
      obtain ⟨g3, hF⟩ := zg hF
      obtain ⟨g5, hF⟩ := zg hF
      obtain ⟨r4, h4, e4, hF⟩ := zb_some hF
      obtain ⟨_, rfl⟩ := zr hF
      exact ((frrR h).tr (fr_X3_cleanFirst e4))
    · have hF := im c2 hF
      obtain ⟨_, rfl⟩ := zr hF
      exact (frrR h)
theorem fr_X11_clean {l0 l1 : Int} {h : zH} {r : Int} {h' : zH} (hF : F_X11_clean l0 l1 h = some (r, h')) : FrR h h' := f_X11_clean_0 hF
theorem f_X11_cleaning_0 {l0 l1 : Int} {h : zH} {r : Int} {h' : zH} (hF : F_X11_cleaning_0 l0 l1 h = some (r, h')) : FrR h h' := by
  unfold F_X11_cleaning_0 at hF
  obtain ⟨g1, hF⟩ := zg hF
  obtain ⟨g3, hF⟩ := zg hF
  obtain ⟨r2, h2, e2, hF⟩ := zb_some hF
  obtain ⟨_, rfl⟩ := zr hF
  exact ((frrR h).tr (fr_X3_inCleaning e2))
theorem fr_X11_cleaning {l0 l1 : Int} {h : zH} {r : Int} {h' : zH} (hF : F_X11_cleaning l0 l1 h = some (r, h')) : FrR h h' := f_X11_cleaning_0 hF
theorem f_X7_add_0 {l0 l1 l2 l3 : Int} {h : zH} {r : Int} {h' : zH} (hF : F_X7_add_0 l0 l1 l2 l3 h = some (r, h')) : FrR h h' := by
  unfold F_X7_add_0 at hF
  obtain ⟨g1, hF⟩ := zg hF
  obtain ⟨r2, h2, e2, hF⟩ := zb_some hF
  by_cases c3 : r2 ≠ 0
  · have hF := ip c3 hF
    obtain ⟨g4, hF⟩ := zg hF
    obtain ⟨g5, hF⟩ := zg hF
    obtain ⟨g6, hF⟩ := zg hF
    obtain ⟨g7, hF⟩ := zg hF
    have hF := zl_e hF
    have fk8 : FrR h (pt (pt h2 36 (gt h2 7 l0 0) (gt h2 7 l0 3) l1) 37 (gt (pt h2 36 (gt h2 7 l0 0) (gt h2 7 l0 3) l1) 7 l0 1) (gt (pt h2 36 (gt h2 7 l0 0) (gt h2 7 l0 3) l1) 7 l0 3) l2) := (frpR (by decide) (frpR (by decide) ((frrR h).tr (fr_X11_within e2))))
    generalize pt (pt h2 36 (gt h2 7 l0 0) (gt h2 7 l0 3) l1) 37 (gt (pt h2 36 (gt h2 7 l0 0) (gt h2 7 l0 3) l1) 7 l0 1) (gt (pt h2 36 (gt h2 7 l0 0) (gt h2 7 l0 3) l1) 7 l0 3) l2 = k8 at hF fk8
    obtain ⟨g9, hF⟩ := zg hF
    obtain ⟨g10, hF⟩ := zg hF
    obtain ⟨_, rfl⟩ := zr hF
    exact (frpR (by decide) (frpR (by decide) fk8))
  · have hF := im c3 hF
    obtain ⟨_, rfl⟩ := zr hF
    exact ((frrR h).tr (fr_X11_within e2))
theorem fr_X7_add {l0 l1 l2 l3 : Int} {h : zH} {r : Int} {h' : zH} (hF : F_X7_add l0 l1 l2 l3 h = some (r, h')) : FrR h h' := f_X7_add_0 hF
theorem f_X11_plan_0 {l0 l1 l2 l3 : Int} {h : zH} {r : Int} {h' : zH} (hF : F_X11_plan_0 l0 l1 l2 l3 h = some (r, h')) : FrR h h' := by
  unfold F_X11_plan_0 at hF
  obtain ⟨g1, hF⟩ := zg hF
  obtain ⟨g3, hF⟩ := zg hF
  obtain ⟨r2, h2, e2, hF⟩ := zb_some hF
  by_cases c4 : r2 ≠ -1
  · have hF := ip c4 hF
    by_cases c5 : l2 < 1
    · have hF := ip c5 hF
      obtain ⟨_, rfl⟩ := zr hF
      exact ((frrR h).tr (fr_X3_find e2))
    · have hF := im c5 hF
      by_cases c6 : 20 < l2
      · have hF := ip c6 hF
        obtain ⟨_, rfl⟩ := zr hF
        exact ((frrR h).tr (fr_X3_find e2))
      · have hF := im c6 hF
        obtain ⟨r7, h7, e7, hF⟩ := zb_some hF
        by_cases c8 : r7 ≠ 0
        · have hF := ip c8 hF
          obtain ⟨g9, hF⟩ := zg hF
          obtain ⟨g11, hF⟩ := zg hF
          obtain ⟨r10, h10, e10, hF⟩ := zb_some hF
          obtain ⟨_, rfl⟩ := zr hF
          exact ((((frrR h).tr (fr_X3_find e2)).tr (fr_X11_within e7)).tr (fr_X7_add e10))
        · have hF := im c8 hF
          obtain ⟨_, rfl⟩ := zr hF
          exact (((frrR h).tr (fr_X3_find e2)).tr (fr_X11_within e7))
  · have hF := im c4 hF
    obtain ⟨_, rfl⟩ := zr hF
    exact ((frrR h).tr (fr_X3_find e2))
theorem fr_X11_plan {l0 l1 l2 l3 : Int} {h : zH} {r : Int} {h' : zH} (hF : F_X11_plan l0 l1 l2 l3 h = some (r, h')) : FrR h h' := f_X11_plan_0 hF
theorem f_X11_plans_0 {l0 l1 : Int} {h : zH} {r : Int} {h' : zH} (hF : F_X11_plans_0 l0 l1 h = some (r, h')) : FrR h h' := by
  unfold F_X11_plans_0 at hF
  obtain ⟨g1, hF⟩ := zg hF
  obtain ⟨g2, hF⟩ := zg hF
  obtain ⟨g3, hF⟩ := zg hF
  by_cases c4 : l1 = 0
  · have hF := ip c4 hF
    obtain ⟨_, rfl⟩ := zr hF
    exact (frrR h)
  · have hF := im c4 hF
    obtain ⟨_, rfl⟩ := zr hF
    exact (frpR (by decide) (frrR h))
theorem fr_X11_plans {l0 l1 : Int} {h : zH} {r : Int} {h' : zH} (hF : F_X11_plans l0 l1 h = some (r, h')) : FrR h h' := f_X11_plans_0 hF
theorem f_X11_act_0 {l0 : Int} {h : zH} {r : Int} {h' : zH} (hF : F_X11_act_0 l0 h = some (r, h')) : FrR h h' := by
  unfold F_X11_act_0 at hF
  obtain ⟨g1, hF⟩ := zg hF
  obtain ⟨r2, h2, e2, hF⟩ := zb_some hF
  by_cases c3 : r2 ≠ 0
  · have hF := ip c3 hF
    obtain ⟨g5, hF⟩ := zg hF
    obtain ⟨r4, h4, e4, hF⟩ := zb_some hF
    obtain ⟨g6, hF⟩ := zg hF
    obtain ⟨g7, hF⟩ := zg hF
    have hF := zl_e hF
    have fk8 : FrR h (pt (pt h4 49 (gt h2 11 l0 1) (gt h2 11 l0 2) (cn h2 10)) 11 l0 2 (wI ((gt (pt h4 49 (gt h2 11 l0 1) (gt h2 11 l0 2) (cn h2 10)) 11 l0 2) + 1))) := (frpR (by decide) (frpR (by decide) ((frnR (by decide) ((frrR h).tr (fr_X11_within e2))).tr (fr_X10_init e4))))
    generalize pt (pt h4 49 (gt h2 11 l0 1) (gt h2 11 l0 2) (cn h2 10)) 11 l0 2 (wI ((gt (pt h4 49 (gt h2 11 l0 1) (gt h2 11 l0 2) (cn h2 10)) 11 l0 2) + 1)) = k8 at hF fk8
    obtain ⟨_, rfl⟩ := zr hF
    exact fk8
  · have hF := im c3 hF
    obtain ⟨_, rfl⟩ := zr hF
    exact ((frrR h).tr (fr_X11_within e2))
theorem fr_X11_act {l0 : Int} {h : zH} {r : Int} {h' : zH} (hF : F_X11_act l0 h = some (r, h')) : FrR h h' := f_X11_act_0 hF
theorem f_X11_findScript_0 {l0 l1 : Int} {h : zH} {r : Int} {h' : zH} (hF : F_X11_findScript_0 l0 l1 h = some (r, h')) : FrR h h' := by
  unfold F_X11_findScript_0 at hF
  obtain ⟨g1, hF⟩ := zg hF
  obtain ⟨r2, h2, e2, hF⟩ := zb_some hF
  by_cases c3 : r2 = 0
  · have hF := ip c3 hF
    obtain ⟨_, rfl⟩ := zr hF
    exact ((frrR h).tr (fr_X11_within e2))
  · have hF := im c3 hF
    obtain ⟨g4, hF⟩ := zg hF
    obtain ⟨_, rfl⟩ := zr hF
    exact ((frrR h).tr (fr_X11_within e2))
theorem fr_X11_findScript {l0 l1 : Int} {h : zH} {r : Int} {h' : zH} (hF : F_X11_findScript l0 l1 h = some (r, h')) : FrR h h' := f_X11_findScript_0 hF
theorem f_X10_fits_0 {l0 l1 : Int} {h : zH} {r : Int} {h' : zH} (hF : F_X10_fits_0 l0 l1 h = some (r, h')) : FrR h h' := by
  unfold F_X10_fits_0 at hF
  by_cases c1 : l1 = (-1)
  · have hF := ip c1 hF
    obtain ⟨_, rfl⟩ := zr hF
    exact (frrR h)
  · have hF := im c1 hF
    by_cases c2 : l0 < 0
    · have hF := ip c2 hF
      obtain ⟨_, rfl⟩ := zr hF
      exact (frrR h)
    · have hF := im c2 hF
      by_cases c3 : l1 < l0
      · have hF := ip c3 hF
        obtain ⟨_, rfl⟩ := zr hF
        exact (frrR h)
      · have hF := im c3 hF
        obtain ⟨_, rfl⟩ := zr hF
        exact (frrR h)
theorem fr_X10_fits {l0 l1 : Int} {h : zH} {r : Int} {h' : zH} (hF : F_X10_fits l0 l1 h = some (r, h')) : FrR h h' := f_X10_fits_0 hF
theorem f_X10_opAt_0 {l0 l1 : Int} {h : zH} {r : Int} {h' : zH} (hF : F_X10_opAt_0 l0 l1 h = some (r, h')) : FrR h h' := by
  unfold F_X10_opAt_0 at hF
  obtain ⟨g1, hF⟩ := zg hF
  obtain ⟨r2, h2, e2, hF⟩ := zb_some hF
  by_cases c3 : r2 = 0
  · have hF := ip c3 hF
    obtain ⟨_, rfl⟩ := zr hF
    exact ((frrR h).tr (fr_X11_within e2))
  · have hF := im c3 hF
    obtain ⟨g4, hF⟩ := zg hF
    obtain ⟨g5, hF⟩ := zg hF
    obtain ⟨_, rfl⟩ := zr hF
    exact ((frrR h).tr (fr_X11_within e2))
theorem fr_X10_opAt {l0 l1 : Int} {h : zH} {r : Int} {h' : zH} (hF : F_X10_opAt l0 l1 h = some (r, h')) : FrR h h' := f_X10_opAt_0 hF
theorem f_X10_takesWays_0 {l0 : Int} {h : zH} {r : Int} {h' : zH} (hF : F_X10_takesWays_0 l0 h = some (r, h')) : FrR h h' := by
  unfold F_X10_takesWays_0 at hF
  obtain ⟨g1, hF⟩ := zg hF
  obtain ⟨r2, h2, e2, hF⟩ := zb_some hF
  by_cases c3 : r2 = 0
  · have hF := ip c3 hF
    obtain ⟨_, rfl⟩ := zr hF
    exact ((frrR h).tr (fr_X11_within e2))
  · have hF := im c3 hF
    obtain ⟨g4, hF⟩ := zg hF
    obtain ⟨g5, hF⟩ := zg hF
    obtain ⟨r6, h6, e6, hF⟩ := zb_some hF
    by_cases c7 : r6 ≠ 13
    · have hF := ip c7 hF
      obtain ⟨_, rfl⟩ := zr hF
      exact (((frrR h).tr (fr_X11_within e2)).tr (fr_X10_opAt e6))
    · have hF := im c7 hF
      obtain ⟨g8, hF⟩ := zg hF
      obtain ⟨r9, h9, e9, hF⟩ := zb_some hF
      by_cases c10 : r9 = 15
      · have hF := ip c10 hF
        obtain ⟨_, rfl⟩ := zr hF
        exact ((((frrR h).tr (fr_X11_within e2)).tr (fr_X10_opAt e6)).tr (fr_X10_opAt e9))
      · have hF := im c10 hF
        obtain ⟨_, rfl⟩ := zr hF
        exact ((((frrR h).tr (fr_X11_within e2)).tr (fr_X10_opAt e6)).tr (fr_X10_opAt e9))
theorem fr_X10_takesWays {l0 : Int} {h : zH} {r : Int} {h' : zH} (hF : F_X10_takesWays l0 h = some (r, h')) : FrR h h' := f_X10_takesWays_0 hF
theorem f_X10_isInLoop_2b {ag2 : Int → Int → zH → zO} (hag2 : ∀ (l0 l1 : Int) (h : zH) (r : Int) (h' : zH), ag2 l0 l1 h = some (r, h') → FrR h h') {l0 l1 : Int} {h : zH} {r : Int} {h' : zH} (hF : F_X10_isInLoop_2b ag2 l0 l1 h = some (r, h')) : FrR h h' := by
  unfold F_X10_isInLoop_2b at hF
  obtain ⟨g1, hF⟩ := zg hF
  by_cases c2 : gt h 10 l0 9 ≤ l1
  · have hF := ip c2 hF
    obtain ⟨_, rfl⟩ := zr hF
    exact (frrR h)
  · have hF := im c2 hF
    obtain ⟨g3, hF⟩ := zg hF
    obtain ⟨g4, hF⟩ := zg hF
    obtain ⟨r5, h5, e5, hF⟩ := zb_some hF
    by_cases c6 : r5 ≠ 11
    · have hF := ip c6 hF
      exact ((frrR h).tr (fr_X10_opAt e5)).tr (hag2 _ _ _ _ _ hF)
    · have hF := im c6 hF
      obtain ⟨_, rfl⟩ := zr hF
      exact ((frrR h).tr (fr_X10_opAt e5))
theorem f_X10_isInLoop_2 : ∀ (n : Nat) (l0 l1 : Int) (h : zH) (r : Int) (h' : zH), F_X10_isInLoop_2 n l0 l1 h = some (r, h') → FrR h h'
  | 0, _, _, _, _, _, hF => by cases hF
  | n + 1, _, _, _, _, _, hF => f_X10_isInLoop_2b (f_X10_isInLoop_2 n) hF
theorem f_X10_isInLoop_0 {l0 : Int} {h : zH} {r : Int} {h' : zH} (hF : F_X10_isInLoop_0 l0 h = some (r, h')) : FrR h h' := by
  unfold F_X10_isInLoop_0 at hF
  exact (frrR h).tr (f_X10_isInLoop_2 _ _ _ _ _ _ hF)
theorem fr_X10_isInLoop {l0 : Int} {h : zH} {r : Int} {h' : zH} (hF : F_X10_isInLoop l0 h = some (r, h')) : FrR h h' := f_X10_isInLoop_0 hF
theorem f_X10_faultOf_0 {l0 l1 l2 l3 : Int} {h : zH} {r : Int} {h' : zH} (hF : F_X10_faultOf_0 l0 l1 l2 l3 h = some (r, h')) : FrR h h' := by
  unfold F_X10_faultOf_0 at hF
  obtain ⟨r1, h1, e1, hF⟩ := zb_some hF
  by_cases c2 : r1 = 0
  · have hF := ip c2 hF
    obtain ⟨_, rfl⟩ := zr hF
    exact ((frrR h).tr (fr_X11_within e1))
  · have hF := im c2 hF
    obtain ⟨g3, hF⟩ := zg hF
    obtain ⟨r4, h4, e4, hF⟩ := zb_some hF
    by_cases c5 : r4 = 0
    · have hF := ip c5 hF
      obtain ⟨_, rfl⟩ := zr hF
      exact (((frrR h).tr (fr_X11_within e1)).tr (fr_X10_fits e4))
    · have hF := im c5 hF
      obtain ⟨g6, hF⟩ := zg hF
      obtain ⟨r7, h7, e7, hF⟩ := zb_some hF
      by_cases c8 : r7 ≠ 0
      · have hF := ip c8 hF
        by_cases c9 : l1 = 10
        · have hF := ip c9 hF
          obtain ⟨g14, hF⟩ := zg hF
          obtain ⟨r13, h13, e13, hF⟩ := zb_some hF
          by_cases c15 : r13 = 0
          · have hF := ip c15 hF
            obtain ⟨_, rfl⟩ := zr hF
            exact (((((frrR h).tr (fr_X11_within e1)).tr (fr_X10_fits e4)).tr (fr_X10_fits e7)).tr (fr_X10_isInLoop e13))
          · have hF := im c15 hF
            obtain ⟨_, rfl⟩ := zr hF
            exact (((((frrR h).tr (fr_X11_within e1)).tr (fr_X10_fits e4)).tr (fr_X10_fits e7)).tr (fr_X10_isInLoop e13))
        · have hF := im c9 hF
          by_cases c16 : l1 = 11 ∨ l1 = 12 ∨ l1 = 13
          · have hF := ip c16 hF
            obtain ⟨g19, hF⟩ := zg hF
            by_cases c20 : 8 ≤ gt h7 10 l0 9
            · have hF := ip c20 hF
              obtain ⟨_, rfl⟩ := zr hF
              exact ((((frrR h).tr (fr_X11_within e1)).tr (fr_X10_fits e4)).tr (fr_X10_fits e7))
            · have hF := im c20 hF
              obtain ⟨_, rfl⟩ := zr hF
              exact ((((frrR h).tr (fr_X11_within e1)).tr (fr_X10_fits e4)).tr (fr_X10_fits e7))
          · have hF := im c16 hF
            by_cases c21 : l1 = 14 ∨ l1 = 15
            · have hF := ip c21 hF
              obtain ⟨g26, hF⟩ := zg hF
              obtain ⟨r25, h25, e25, hF⟩ := zb_some hF
              by_cases c27 : r25 = 0
              · have hF := ip c27 hF
                obtain ⟨_, rfl⟩ := zr hF
                exact (((((frrR h).tr (fr_X11_within e1)).tr (fr_X10_fits e4)).tr (fr_X10_fits e7)).tr (fr_X10_takesWays e25))
              · have hF := im c27 hF
                obtain ⟨_, rfl⟩ := zr hF
                exact (((((frrR h).tr (fr_X11_within e1)).tr (fr_X10_fits e4)).tr (fr_X10_fits e7)).tr (fr_X10_takesWays e25))
            · have hF := im c21 hF
              by_cases c28 : l1 = 16
              · have hF := ip c28 hF
                obtain ⟨g31, hF⟩ := zg hF
                by_cases c32 : gt h7 10 l0 9 ≤ 0
                · have hF := ip c32 hF
                  obtain ⟨_, rfl⟩ := zr hF
                  exact ((((frrR h).tr (fr_X11_within e1)).tr (fr_X10_fits e4)).tr (fr_X10_fits e7))
                · have hF := im c32 hF
                  obtain ⟨_, rfl⟩ := zr hF
                  exact ((((frrR h).tr (fr_X11_within e1)).tr (fr_X10_fits e4)).tr (fr_X10_fits e7))
              · have hF := im c28 hF
                obtain ⟨_, rfl⟩ := zr hF
                exact ((((frrR h).tr (fr_X11_within e1)).tr (fr_X10_fits e4)).tr (fr_X10_fits e7))
      · have hF := im c8 hF
        obtain ⟨_, rfl⟩ := zr hF
        exact ((((frrR h).tr (fr_X11_within e1)).tr (fr_X10_fits e4)).tr (fr_X10_fits e7))
theorem fr_X10_faultOf {l0 l1 l2 l3 : Int} {h : zH} {r : Int} {h' : zH} (hF : F_X10_faultOf l0 l1 l2 l3 h = some (r, h')) : FrR h h' := f_X10_faultOf_0 hF
theorem f_X10_linkMark_43 {l0 l1 l2 l3 : Int} {h : zH} {r : Int} {h' : zH} (hF : F_X10_linkMark_43 l0 l1 l2 l3 h = some (r, h')) : FrR h h' := by
  unfold F_X10_linkMark_43 at hF
  obtain ⟨g1, hF⟩ := zg hF
  obtain ⟨g2, hF⟩ := zg hF
  obtain ⟨g3, hF⟩ := zg hF
  by_cases c4 : l1 ≠ 16
  · have hF := ip c4 hF
    obtain ⟨_, rfl⟩ := zr hF
    exact (frpR (by decide) (frrR h))
  · have hF := im c4 hF
    obtain ⟨_, rfl⟩ := zr hF
    exact (frpR (by decide) (frpR (by decide) (frrR h)))
theorem f_X10_linkMark_0 {l0 l1 l2 : Int} {h : zH} {r : Int} {h' : zH} (hF : F_X10_linkMark_0 l0 l1 l2 h = some (r, h')) : FrR h h' := by
  unfold F_X10_linkMark_0 at hF
  obtain ⟨g1, hF⟩ := zg hF
  obtain ⟨r2, h2, e2, hF⟩ := zb_some hF
  by_cases c3 : r2 ≠ 0
  · have hF := ip c3 hF
    obtain ⟨g4, hF⟩ := zg hF
    obtain ⟨g5, hF⟩ := zg hF
    obtain ⟨r6, h6, e6, hF⟩ := zb_some hF
    by_cases c7 : r6 = 0
    · have hF := ip c7 hF
      exact (((frrR h).tr (fr_X11_within e2)).tr (fr_X11_within e6)).tr (f_X10_linkMark_43 hF)
    · have hF := im c7 hF
      obtain ⟨g8, hF⟩ := zg hF
      obtain ⟨g9, hF⟩ := zg hF
      obtain ⟨g10, hF⟩ := zg hF
      exact (frpR (by decide) (((frrR h).tr (fr_X11_within e2)).tr (fr_X11_within e6))).tr (f_X10_linkMark_43 hF)
  · have hF := im c3 hF
    obtain ⟨_, rfl⟩ := zr hF
    exact ((frrR h).tr (fr_X11_within e2))
theorem fr_X10_linkMark {l0 l1 l2 : Int} {h : zH} {r : Int} {h' : zH} (hF : F_X10_linkMark l0 l1 l2 h = some (r, h')) : FrR h h' := f_X10_linkMark_0 hF
theorem f_X10_place_81 {l0 l1 l2 : Int} {h : zH} {r : Int} {h' : zH} (hF : F_X10_place_81 l0 l1 l2 h = some (r, h')) : FrR h h' := by
  unfold F_X10_place_81 at hF
  obtain ⟨g2, hF⟩ := zg hF
  obtain ⟨r1, h1, e1, hF⟩ := zb_some hF
  obtain ⟨_, rfl⟩ := zr hF
  exact ((frrR h).tr (fr_X10_linkMark e1))
theorem f_X10_place_18 {l0 l2 : Int} {h : zH} {r : Int} {h' : zH} (hF : F_X10_place_18 l0 l2 h = some (r, h')) : FrR h h' := by
  unfold F_X10_place_18 at hF
  obtain ⟨g1, hF⟩ := zg hF
  obtain ⟨r2, h2, e2, hF⟩ := zb_some hF
  by_cases c3 : r2 = 0
  · have hF := ip c3 hF
    obtain ⟨_, rfl⟩ := zr hF
    exact ((frrR h).tr (fr_X11_within e2))
  · have hF := im c3 hF
    obtain ⟨g4, hF⟩ := zg hF
    obtain ⟨g5, hF⟩ := zg hF
    obtain ⟨g6, hF⟩ := zg hF
    obtain ⟨g7, hF⟩ := zg hF
    have hF := zl_e hF
    have fk8 : FrR h (pt (pt h2 47 (gt h2 10 l0 7) (gt h2 10 l0 9) l2) 48 (gt (pt h2 47 (gt h2 10 l0 7) (gt h2 10 l0 9) l2) 10 l0 8) (gt (pt h2 47 (gt h2 10 l0 7) (gt h2 10 l0 9) l2) 10 l0 9) l2) := (frpR (by decide) (frpR (by decide) ((frrR h).tr (fr_X11_within e2))))
    generalize pt (pt h2 47 (gt h2 10 l0 7) (gt h2 10 l0 9) l2) 48 (gt (pt h2 47 (gt h2 10 l0 7) (gt h2 10 l0 9) l2) 10 l0 8) (gt (pt h2 47 (gt h2 10 l0 7) (gt h2 10 l0 9) l2) 10 l0 9) l2 = k8 at hF fk8
    obtain ⟨_, rfl⟩ := zr hF
    exact (frpR (by decide) fk8)
theorem f_X10_place_0 {l0 l1 l2 : Int} {h : zH} {r : Int} {h' : zH} (hF : F_X10_place_0 l0 l1 l2 h = some (r, h')) : FrR h h' := by
  unfold F_X10_place_0 at hF
  by_cases c1 : l1 = 11
  · have hF := ip c1 hF
    exact (frrR h).tr (f_X10_place_18 hF)
  · have hF := im c1 hF
    by_cases c2 : l1 = 12
    · have hF := ip c2 hF
      exact (frrR h).tr (f_X10_place_18 hF)
    · have hF := im c2 hF
      by_cases c3 : l1 ≠ 13
      · have hF := ip c3 hF
        by_cases c4 : l1 = 14
        · have hF := ip c4 hF
          exact (frrR h).tr (f_X10_place_81 hF)
        · have hF := im c4 hF
          by_cases c5 : l1 = 15
          · have hF := ip c5 hF
            exact (frrR h).tr (f_X10_place_81 hF)
          · have hF := im c5 hF
            by_cases c6 : l1 ≠ 16
            · have hF := ip c6 hF
              obtain ⟨_, rfl⟩ := zr hF
              exact (frrR h)
            · have hF := im c6 hF
              exact (frrR h).tr (f_X10_place_81 hF)
      · have hF := im c3 hF
        exact (frrR h).tr (f_X10_place_18 hF)
theorem fr_X10_place {l0 l1 l2 : Int} {h : zH} {r : Int} {h' : zH} (hF : F_X10_place l0 l1 l2 h = some (r, h')) : FrR h h' := f_X10_place_0 hF
theorem f_X10_add_0 {l0 l1 l2 l3 : Int} {h : zH} {r : Int} {h' : zH} (hF : F_X10_add_0 l0 l1 l2 l3 h = some (r, h')) : FrR h h' := by
  unfold F_X10_add_0 at hF
  obtain ⟨g1, hF⟩ := zg hF
  obtain ⟨r2, h2, e2, hF⟩ := zb_some hF
  by_cases c3 : r2 ≠ 0
  · have hF := ip c3 hF
    obtain ⟨g4, hF⟩ := zg hF
    obtain ⟨g5, hF⟩ := zg hF
    obtain ⟨g6, hF⟩ := zg hF
    obtain ⟨g7, hF⟩ := zg hF
    have hF := zl_e hF
    have fk8 : FrR h (pt (pt h2 43 (gt h2 10 l0 0) (gt h2 10 l0 4) l1) 44 (gt (pt h2 43 (gt h2 10 l0 0) (gt h2 10 l0 4) l1) 10 l0 1) (gt (pt h2 43 (gt h2 10 l0 0) (gt h2 10 l0 4) l1) 10 l0 4) l2) := (frpR (by decide) (frpR (by decide) ((frrR h).tr (fr_X11_within e2))))
    generalize pt (pt h2 43 (gt h2 10 l0 0) (gt h2 10 l0 4) l1) 44 (gt (pt h2 43 (gt h2 10 l0 0) (gt h2 10 l0 4) l1) 10 l0 1) (gt (pt h2 43 (gt h2 10 l0 0) (gt h2 10 l0 4) l1) 10 l0 4) l2 = k8 at hF fk8
    obtain ⟨g9, hF⟩ := zg hF
    obtain ⟨g10, hF⟩ := zg hF
    obtain ⟨g11, hF⟩ := zg hF
    obtain ⟨g12, hF⟩ := zg hF
    have hF := zl_e hF
    have fk13 : FrR h (pt (pt k8 45 (gt k8 10 l0 2) (gt k8 10 l0 4) l3) 46 (gt (pt k8 45 (gt k8 10 l0 2) (gt k8 10 l0 4) l3) 10 l0 3) (gt (pt k8 45 (gt k8 10 l0 2) (gt k8 10 l0 4) l3) 10 l0 4) (-1)) := (frpR (by decide) (frpR (by decide) fk8))
    generalize pt (pt k8 45 (gt k8 10 l0 2) (gt k8 10 l0 4) l3) 46 (gt (pt k8 45 (gt k8 10 l0 2) (gt k8 10 l0 4) l3) 10 l0 3) (gt (pt k8 45 (gt k8 10 l0 2) (gt k8 10 l0 4) l3) 10 l0 4) (-1) = k13 at hF fk13
    by_cases c14 : gt (pt k13 10 l0 4 (wI ((gt k13 10 l0 4) + 1))) 10 l0 5 ≠ 0
    · have hF := ip c14 hF
      obtain ⟨_, rfl⟩ := zr hF
      exact (frpR (by decide) fk13)
    · have hF := im c14 hF
      obtain ⟨r15, h15, e15, hF⟩ := zb_some hF
      by_cases c16 : gt (pt (pt h15 10 l0 5 r15) 10 l0 6 (wI ((gt (pt h15 10 l0 5 r15) 10 l0 4) - 1))) 10 l0 5 ≠ 0
      · have hF := ip c16 hF
        obtain ⟨_, rfl⟩ := zr hF
        exact (frpR (by decide) (frpR (by decide) ((frpR (by decide) fk13).tr (fr_X10_faultOf e15))))
      · have hF := im c16 hF
        obtain ⟨r17, h17, e17, hF⟩ := zb_some hF
        obtain ⟨_, rfl⟩ := zr hF
        exact ((frpR (by decide) (frpR (by decide) ((frpR (by decide) fk13).tr (fr_X10_faultOf e15)))).tr (fr_X10_place e17))
  · have hF := im c3 hF
    obtain ⟨_, rfl⟩ := zr hF
    exact ((frrR h).tr (fr_X11_within e2))
theorem fr_X10_add {l0 l1 l2 l3 : Int} {h : zH} {r : Int} {h' : zH} (hF : F_X10_add l0 l1 l2 l3 h = some (r, h')) : FrR h h' := f_X10_add_0 hF
theorem f_X11_line_0 {l0 l1 l2 l3 l4 : Int} {h : zH} {r : Int} {h' : zH} (hF : F_X11_line_0 l0 l1 l2 l3 l4 h = some (r, h')) : FrR h h' := by
  unfold F_X11_line_0 at hF
  obtain ⟨g1, hF⟩ := zg hF
  obtain ⟨r2, h2, e2, hF⟩ := zb_some hF
  by_cases c3 : r2 ≠ -1
  · have hF := ip c3 hF
    obtain ⟨g5, hF⟩ := zg hF
    obtain ⟨r4, h4, e4, hF⟩ := zb_some hF
    obtain ⟨_, rfl⟩ := zr hF
    exact (((frrR h).tr (fr_X11_findScript e2)).tr (fr_X10_add e4))
  · have hF := im c3 hF
    obtain ⟨_, rfl⟩ := zr hF
    exact ((frrR h).tr (fr_X11_findScript e2))
theorem fr_X11_line {l0 l1 l2 l3 l4 : Int} {h : zH} {r : Int} {h' : zH} (hF : F_X11_line l0 l1 l2 l3 l4 h = some (r, h')) : FrR h h' := f_X11_line_0 hF
theorem f_X10_clear_0 {l0 : Int} {h : zH} {r : Int} {h' : zH} (hF : F_X10_clear_0 l0 h = some (r, h')) : FrR h h' := by
  unfold F_X10_clear_0 at hF
  obtain ⟨g1, hF⟩ := zg hF
  obtain ⟨_, rfl⟩ := zr hF
  exact (frpR (by decide) (frpR (by decide) (frpR (by decide) (frrR h))))
theorem fr_X10_clear {l0 : Int} {h : zH} {r : Int} {h' : zH} (hF : F_X10_clear l0 h = some (r, h')) : FrR h h' := f_X10_clear_0 hF
theorem f_X11_wipe_0 {l0 l1 : Int} {h : zH} {r : Int} {h' : zH} (hF : F_X11_wipe_0 l0 l1 h = some (r, h')) : FrR h h' := by
  unfold F_X11_wipe_0 at hF
  obtain ⟨g1, hF⟩ := zg hF
  obtain ⟨r2, h2, e2, hF⟩ := zb_some hF
  by_cases c3 : r2 ≠ -1
  · have hF := ip c3 hF
    obtain ⟨g5, hF⟩ := zg hF
    obtain ⟨r4, h4, e4, hF⟩ := zb_some hF
    obtain ⟨_, rfl⟩ := zr hF
    exact (((frrR h).tr (fr_X11_findScript e2)).tr (fr_X10_clear e4))
  · have hF := im c3 hF
    obtain ⟨_, rfl⟩ := zr hF
    exact ((frrR h).tr (fr_X11_findScript e2))
theorem fr_X11_wipe {l0 l1 : Int} {h : zH} {r : Int} {h' : zH} (hF : F_X11_wipe l0 l1 h = some (r, h')) : FrR h h' := f_X11_wipe_0 hF
theorem f_X10_faultNumber_0 {l0 : Int} {h : zH} {r : Int} {h' : zH} (hF : F_X10_faultNumber_0 l0 h = some (r, h')) : FrR h h' := by
  unfold F_X10_faultNumber_0 at hF
  obtain ⟨g1, hF⟩ := zg hF
  by_cases c2 : gt h 10 l0 5 ≠ 0
  · have hF := ip c2 hF
    obtain ⟨_, rfl⟩ := zr hF
    exact (frrR h)
  · have hF := im c2 hF
    by_cases c3 : gt h 10 l0 9 ≤ 0
    · have hF := ip c3 hF
      obtain ⟨_, rfl⟩ := zr hF
      exact (frrR h)
    · have hF := im c3 hF
      obtain ⟨_, rfl⟩ := zr hF
      exact (frrR h)
theorem fr_X10_faultNumber {l0 : Int} {h : zH} {r : Int} {h' : zH} (hF : F_X10_faultNumber l0 h = some (r, h')) : FrR h h' := f_X10_faultNumber_0 hF
theorem f_X10_faultLine_0 {l0 : Int} {h : zH} {r : Int} {h' : zH} (hF : F_X10_faultLine_0 l0 h = some (r, h')) : FrR h h' := by
  unfold F_X10_faultLine_0 at hF
  obtain ⟨g1, hF⟩ := zg hF
  by_cases c2 : gt h 10 l0 5 = 0
  · have hF := ip c2 hF
    by_cases c3 : gt h 10 l0 9 ≤ 0
    · have hF := ip c3 hF
      obtain ⟨_, rfl⟩ := zr hF
      exact (frrR h)
    · have hF := im c3 hF
      obtain ⟨_, rfl⟩ := zr hF
      exact (frrR h)
  · have hF := im c2 hF
    obtain ⟨_, rfl⟩ := zr hF
    exact (frrR h)
theorem fr_X10_faultLine {l0 : Int} {h : zH} {r : Int} {h' : zH} (hF : F_X10_faultLine l0 h = some (r, h')) : FrR h h' := f_X10_faultLine_0 hF
theorem f_X11_fault_0 {l0 l1 l2 : Int} {h : zH} {r : Int} {h' : zH} (hF : F_X11_fault_0 l0 l1 l2 h = some (r, h')) : FrR h h' := by
  unfold F_X11_fault_0 at hF
  obtain ⟨g1, hF⟩ := zg hF
  obtain ⟨r2, h2, e2, hF⟩ := zb_some hF
  by_cases c3 : r2 ≠ -1
  · have hF := ip c3 hF
    obtain ⟨r4, h4, e4, hF⟩ := zb_some hF
    by_cases c5 : r4 ≠ 0
    · have hF := ip c5 hF
      by_cases c6 : l2 ≠ 0
      · have hF := ip c6 hF
        obtain ⟨g8, hF⟩ := zg hF
        obtain ⟨r7, h7, e7, hF⟩ := zb_some hF
        obtain ⟨_, rfl⟩ := zr hF
        exact ((((frrR h).tr (fr_X11_findScript e2)).tr (fr_X11_within e4)).tr (fr_X10_faultLine e7))
      · have hF := im c6 hF
        obtain ⟨g10, hF⟩ := zg hF
        obtain ⟨r9, h9, e9, hF⟩ := zb_some hF
        obtain ⟨_, rfl⟩ := zr hF
        exact ((((frrR h).tr (fr_X11_findScript e2)).tr (fr_X11_within e4)).tr (fr_X10_faultNumber e9))
    · have hF := im c5 hF
      obtain ⟨_, rfl⟩ := zr hF
      exact (((frrR h).tr (fr_X11_findScript e2)).tr (fr_X11_within e4))
  · have hF := im c3 hF
    obtain ⟨_, rfl⟩ := zr hF
    exact ((frrR h).tr (fr_X11_findScript e2))
theorem fr_X11_fault {l0 l1 l2 : Int} {h : zH} {r : Int} {h' : zH} (hF : F_X11_fault l0 l1 l2 h = some (r, h')) : FrR h h' := f_X11_fault_0 hF
theorem f_X8_reset_0 {l0 l1 : Int} {h : zH} {r : Int} {h' : zH} (hF : F_X8_reset_0 l0 l1 h = some (r, h')) : FrR h h' := by
  unfold F_X8_reset_0 at hF
  obtain ⟨g1, hF⟩ := zg hF
  obtain ⟨g2, hF⟩ := zg hF
  have hF := zl_e hF
  have fk3 : FrR h (pt (pt (pt (pt (pt (pt h 8 l0 11 l1) 8 l0 3 0) 8 l0 5 0) 8 l0 7 0) 8 l0 9 0) 2 (gt (pt (pt (pt (pt (pt h 8 l0 11 l1) 8 l0 3 0) 8 l0 5 0) 8 l0 7 0) 8 l0 9 0) 8 l0 10) 6 0) := (frpR (by decide) (frpR (by decide) (frpR (by decide) (frpR (by decide) (frpR (by decide) (frpR (by decide) (frrR h)))))))
  generalize pt (pt (pt (pt (pt (pt h 8 l0 11 l1) 8 l0 3 0) 8 l0 5 0) 8 l0 7 0) 8 l0 9 0) 2 (gt (pt (pt (pt (pt (pt h 8 l0 11 l1) 8 l0 3 0) 8 l0 5 0) 8 l0 7 0) 8 l0 9 0) 8 l0 10) 6 0 = k3 at hF fk3
  obtain ⟨_, rfl⟩ := zr hF
  exact (frpR (by decide) (frpR (by decide) (frpR (by decide) (frpR (by decide) (frpR (by decide) fk3)))))
theorem fr_X8_reset {l0 l1 : Int} {h : zH} {r : Int} {h' : zH} (hF : F_X8_reset l0 l1 h = some (r, h')) : FrR h h' := f_X8_reset_0 hF
theorem f_X1_begin_18b {ag18 : Int → Int → Int → zH → zO} (hag18 : ∀ (l0 l3 l4 : Int) (h : zH) (r : Int) (h' : zH), ag18 l0 l3 l4 h = some (r, h') → FrR h h') {l0 l3 l4 : Int} {h : zH} {r : Int} {h' : zH} (hF : F_X1_begin_18b ag18 l0 l3 l4 h = some (r, h')) : FrR h h' := by
  unfold F_X1_begin_18b at hF
  by_cases c1 : 8 ≤ l4
  · have hF := ip c1 hF
    obtain ⟨g2, hF⟩ := zg hF
    obtain ⟨g3, hF⟩ := zg hF
    obtain ⟨_, rfl⟩ := zr hF
    exact (frpR (by decide) (frrR h))
  · have hF := im c1 hF
    obtain ⟨g4, hF⟩ := zg hF
    obtain ⟨g5, hF⟩ := zg hF
    obtain ⟨g6, hF⟩ := zg hF
    exact (frpR (by decide) (frrR h)).tr (hag18 _ _ _ _ _ _ hF)
theorem f_X1_begin_18 : ∀ (n : Nat) (l0 l3 l4 : Int) (h : zH) (r : Int) (h' : zH), F_X1_begin_18 n l0 l3 l4 h = some (r, h') → FrR h h'
  | 0, _, _, _, _, _, _, hF => by cases hF
  | n + 1, _, _, _, _, _, _, hF => f_X1_begin_18b (f_X1_begin_18 n) hF
theorem f_X1_begin_0 {l0 l1 l2 l3 : Int} {h : zH} {r : Int} {h' : zH} (hF : F_X1_begin_0 l0 l1 l2 l3 h = some (r, h')) : FrR h h' := by
  unfold F_X1_begin_0 at hF
  obtain ⟨g1, hF⟩ := zg hF
  exact (frpR (by decide) (frpR (by decide) (frpR (by decide) (frrR h)))).tr (f_X1_begin_18 _ _ _ _ _ _ _ hF)
theorem fr_X1_begin {l0 l1 l2 l3 : Int} {h : zH} {r : Int} {h' : zH} (hF : F_X1_begin l0 l1 l2 l3 h = some (r, h')) : FrR h h' := f_X1_begin_0 hF
theorem f_X0_begin_0 {l0 l1 l2 l3 : Int} {h : zH} {r : Int} {h' : zH} (hF : F_X0_begin_0 l0 l1 l2 l3 h = some (r, h')) : FrR h h' := by
  unfold F_X0_begin_0 at hF
  obtain ⟨g1, hF⟩ := zg hF
  obtain ⟨_, rfl⟩ := zr hF
  exact (frpR (by decide) (frpR (by decide) (frpR (by decide) (frpR (by decide) (frpR (by decide) (frpR (by decide) (frpR (by decide) (frrR h))))))))
theorem fr_X0_begin {l0 l1 l2 l3 : Int} {h : zH} {r : Int} {h' : zH} (hF : F_X0_begin l0 l1 l2 l3 h = some (r, h')) : FrR h h' := f_X0_begin_0 hF
theorem f_X8_push_0 {l0 l1 l2 l3 : Int} {h : zH} {r : Int} {h' : zH} (hF : F_X8_push_0 l0 l1 l2 l3 h = some (r, h')) : FrR h h' := by
  unfold F_X8_push_0 at hF
  obtain ⟨g1, hF⟩ := zg hF
  by_cases c2 : 90 ≤ gt h 8 l0 5
  · have hF := ip c2 hF
    obtain ⟨_, rfl⟩ := zr hF
    exact (frrR h)
  · have hF := im c2 hF
    obtain ⟨g3, hF⟩ := zg hF
    obtain ⟨g4, hF⟩ := zg hF
    obtain ⟨g6, hF⟩ := zg hF
    obtain ⟨r5, h5, e5, hF⟩ := zb_some hF
    obtain ⟨_, rfl⟩ := zr hF
    exact ((frpR (by decide) (frrR h)).tr (fr_X0_begin e5))
theorem fr_X8_push {l0 l1 l2 l3 : Int} {h : zH} {r : Int} {h' : zH} (hF : F_X8_push l0 l1 l2 l3 h = some (r, h')) : FrR h h' := f_X8_push_0 hF
theorem f_X9_begin_0 {l0 l1 l2 : Int} {h : zH} {r : Int} {h' : zH} (hF : F_X9_begin_0 l0 l1 l2 h = some (r, h')) : FrR h h' := by
  unfold F_X9_begin_0 at hF
  obtain ⟨g1, hF⟩ := zg hF
  obtain ⟨_, rfl⟩ := zr hF
  exact (frpR (by decide) (frpR (by decide) (frpR (by decide) (frrR h))))
theorem fr_X9_begin {l0 l1 l2 : Int} {h : zH} {r : Int} {h' : zH} (hF : F_X9_begin l0 l1 l2 h = some (r, h')) : FrR h h' := f_X9_begin_0 hF
theorem f_X8_openScope_0 {l0 l1 l2 : Int} {h : zH} {r : Int} {h' : zH} (hF : F_X8_openScope_0 l0 l1 l2 h = some (r, h')) : FrR h h' := by
  unfold F_X8_openScope_0 at hF
  obtain ⟨g1, hF⟩ := zg hF
  by_cases c2 : 90 ≤ gt h 8 l0 7
  · have hF := ip c2 hF
    obtain ⟨_, rfl⟩ := zr hF
    exact (frrR h)
  · have hF := im c2 hF
    obtain ⟨g3, hF⟩ := zg hF
    obtain ⟨g4, hF⟩ := zg hF
    obtain ⟨g6, hF⟩ := zg hF
    obtain ⟨r5, h5, e5, hF⟩ := zb_some hF
    obtain ⟨_, rfl⟩ := zr hF
    exact ((frpR (by decide) (frrR h)).tr (fr_X9_begin e5))
theorem fr_X8_openScope {l0 l1 l2 : Int} {h : zH} {r : Int} {h' : zH} (hF : F_X8_openScope l0 l1 l2 h = some (r, h')) : FrR h h' := f_X8_openScope_0 hF
theorem f_X8_enter_0 {l0 l1 l2 l3 : Int} {h : zH} {r : Int} {h' : zH} (hF : F_X8_enter_0 l0 l1 l2 l3 h = some (r, h')) : FrR h h' := by
  unfold F_X8_enter_0 at hF
  by_cases c1 : l1 = -1
  · have hF := ip c1 hF
    obtain ⟨_, rfl⟩ := zr hF
    exact (frrR h)
  · have hF := im c1 hF
    obtain ⟨g2, hF⟩ := zg hF
    by_cases c3 : 10 ≤ gt h 8 l0 3
    · have hF := ip c3 hF
      obtain ⟨_, rfl⟩ := zr hF
      exact (frrR h)
    · have hF := im c3 hF
      obtain ⟨g4, hF⟩ := zg hF
      obtain ⟨g5, hF⟩ := zg hF
      obtain ⟨g7, hF⟩ := zg hF
      obtain ⟨r6, h6, e6, hF⟩ := zb_some hF
      obtain ⟨r8, h8, e8, hF⟩ := zb_some hF
      obtain ⟨r9, h9, e9, hF⟩ := zb_some hF
      obtain ⟨_, rfl⟩ := zr hF
      exact ((((frpR (by decide) (frrR h)).tr (fr_X1_begin e6)).tr (fr_X8_push e8)).tr (fr_X8_openScope e9))
theorem fr_X8_enter {l0 l1 l2 l3 : Int} {h : zH} {r : Int} {h' : zH} (hF : F_X8_enter l0 l1 l2 l3 h = some (r, h')) : FrR h h' := f_X8_enter_0 hF
theorem f_X4_leaveScope_57 {l0 : Int} {h : zH} {r : Int} {h' : zH} (hF : F_X4_leaveScope_57 l0 h = some (r, h')) : FrR h h' := by
  unfold F_X4_leaveScope_57 at hF
  obtain ⟨g1, hF⟩ := zg hF
  obtain ⟨_, rfl⟩ := zr hF
  exact (frpR (by decide) (frpR (by decide) (frpR (by decide) (frrR h))))
theorem f_X4_leaveScope_18 {l0 : Int} {h : zH} {r : Int} {h' : zH} (hF : F_X4_leaveScope_18 l0 h = some (r, h')) : FrR h h' := by
  unfold F_X4_leaveScope_18 at hF
  obtain ⟨g1, hF⟩ := zg hF
  by_cases c2 : gt h 4 l0 7 = -1
  · have hF := ip c2 hF
    by_cases c3 : gt h 4 l0 5 = -1
    · have hF := ip c3 hF
      exact (frrR h).tr (f_X4_leaveScope_57 hF)
    · have hF := im c3 hF
      obtain ⟨g4, hF⟩ := zg hF
      exact (frpR (by decide) (frrR h)).tr (f_X4_leaveScope_57 hF)
  · have hF := im c2 hF
    obtain ⟨g5, hF⟩ := zg hF
    exact (frpR (by decide) (frrR h)).tr (f_X4_leaveScope_57 hF)
theorem f_X4_leaveScope_0 {l0 : Int} {h : zH} {r : Int} {h' : zH} (hF : F_X4_leaveScope_0 l0 h = some (r, h')) : FrR h h' := by
  unfold F_X4_leaveScope_0 at hF
  obtain ⟨g1, hF⟩ := zg hF
  by_cases c2 : gt h 4 l0 6 = -1
  · have hF := ip c2 hF
    exact (frrR h).tr (f_X4_leaveScope_18 hF)
  · have hF := im c2 hF
    obtain ⟨g3, hF⟩ := zg hF
    exact (frpR (by decide) (frrR h)).tr (f_X4_leaveScope_18 hF)
theorem fr_X4_leaveScope {l0 : Int} {h : zH} {r : Int} {h' : zH} (hF : F_X4_leaveScope l0 h = some (r, h')) : FrR h h' := f_X4_leaveScope_0 hF
theorem f_X4_close_0 {l0 : Int} {h : zH} {r : Int} {h' : zH} (hF : F_X4_close_0 l0 h = some (r, h')) : FrR h h' := by
  unfold F_X4_close_0 at hF
  obtain ⟨g1, hF⟩ := zg hF
  obtain ⟨r2, h2, e2, hF⟩ := zb_some hF
  by_cases c3 : gt h2 4 l0 3 = -1
  · have hF := ip c3 hF
    obtain ⟨_, rfl⟩ := zr hF
    exact ((frpR (by decide) (frrR h)).tr (fr_X4_leaveScope e2))
  · have hF := im c3 hF
    obtain ⟨g4, hF⟩ := zg hF
    obtain ⟨_, rfl⟩ := zr hF
    exact (frpR (by decide) ((frpR (by decide) (frrR h)).tr (fr_X4_leaveScope e2)))
theorem fr_X4_close {l0 : Int} {h : zH} {r : Int} {h' : zH} (hF : F_X4_close l0 h = some (r, h')) : FrR h h' := f_X4_close_0 hF
theorem f_X7_meets_51 {ag11 : Int → Int → Int → Int → Int → Int → zH → zO} (hag11 : ∀ (l0 l1 l2 l3 l4 l5 : Int) (h : zH) (r : Int) (h' : zH), ag11 l0 l1 l2 l3 l4 l5 h = some (r, h') → FrR h h') {l0 l1 l2 l3 l4 l5 : Int} {h : zH} {r : Int} {h' : zH} (hF : F_X7_meets_51 ag11 l0 l1 l2 l3 l4 l5 h = some (r, h')) : FrR h h' := by
  unfold F_X7_meets_51 at hF
  obtain ⟨g1, hF⟩ := zg hF
  obtain ⟨g2, hF⟩ := zg hF
  obtain ⟨g3, hF⟩ := zg hF
  by_cases c4 : gt h 37 (gt h 7 l0 1) l5 ≤ 0
  · have hF := ip c4 hF
    exact (frrR h).tr (hag11 _ _ _ _ _ _ _ _ _ hF)
  · have hF := im c4 hF
    obtain ⟨g5, hF⟩ := zg hF
    obtain ⟨g6, hF⟩ := zg hF
    obtain ⟨g7, hF⟩ := zg hF
    have hF := zl_e hF
    have fk8 : FrR h (pt (pt h 36 (gt h 7 l0 0) l3 (gt h 36 (gt h 7 l0 0) l5)) 37 (gt (pt h 36 (gt h 7 l0 0) l3 (gt h 36 (gt h 7 l0 0) l5)) 7 l0 1) l3 (gt (pt h 36 (gt h 7 l0 0) l3 (gt h 36 (gt h 7 l0 0) l5)) 37 (gt (pt h 36 (gt h 7 l0 0) l3 (gt h 36 (gt h 7 l0 0) l5)) 7 l0 1) l5)) := (frpR (by decide) (frpR (by decide) (frrR h)))
    generalize pt (pt h 36 (gt h 7 l0 0) l3 (gt h 36 (gt h 7 l0 0) l5)) 37 (gt (pt h 36 (gt h 7 l0 0) l3 (gt h 36 (gt h 7 l0 0) l5)) 7 l0 1) l3 (gt (pt h 36 (gt h 7 l0 0) l3 (gt h 36 (gt h 7 l0 0) l5)) 37 (gt (pt h 36 (gt h 7 l0 0) l3 (gt h 36 (gt h 7 l0 0) l5)) 7 l0 1) l5) = k8 at hF fk8
    obtain ⟨g9, hF⟩ := zg hF
    exact (frpR (by decide) fk8).tr (hag11 _ _ _ _ _ _ _ _ _ hF)
theorem f_X7_meets_11b {ag11 : Int → Int → Int → Int → Int → Int → zH → zO} (hag11 : ∀ (l0 l1 l2 l3 l4 l5 : Int) (h : zH) (r : Int) (h' : zH), ag11 l0 l1 l2 l3 l4 l5 h = some (r, h') → FrR h h') {l0 l1 l2 l3 l4 l5 : Int} {h : zH} {r : Int} {h' : zH} (hF : F_X7_meets_11b ag11 l0 l1 l2 l3 l4 l5 h = some (r, h')) : FrR h h' := by
  unfold F_X7_meets_11b at hF
  by_cases c1 : l4 ≤ l5
  · have hF := ip c1 hF
    obtain ⟨g2, hF⟩ := zg hF
    by_cases c3 : l4 ≤ l3
    · have hF := ip c3 hF
      obtain ⟨_, rfl⟩ := zr hF
      exact (frpR (by decide) (frrR h))
    · have hF := im c3 hF
      obtain ⟨_, rfl⟩ := zr hF
      exact (frpR (by decide) (frrR h))
  · have hF := im c1 hF
    obtain ⟨g4, hF⟩ := zg hF
    obtain ⟨g5, hF⟩ := zg hF
    obtain ⟨g6, hF⟩ := zg hF
    by_cases c7 : gt h 36 (gt h 7 l0 0) l5 ≠ l1
    · have hF := ip c7 hF
      exact (frrR h).tr (f_X7_meets_51 hag11 hF)
    · have hF := im c7 hF
      obtain ⟨g8, hF⟩ := zg hF
      by_cases c9 : gt h 38 (gt h 7 l0 2) l5 ≠ l2
      · have hF := ip c9 hF
        exact (frrR h).tr (f_X7_meets_51 hag11 hF)
      · have hF := im c9 hF
        obtain ⟨g10, hF⟩ := zg hF
        exact (frpR (by decide) (frrR h)).tr (f_X7_meets_51 hag11 hF)
theorem f_X7_meets_11 : ∀ (n : Nat) (l0 l1 l2 l3 l4 l5 : Int) (h : zH) (r : Int) (h' : zH), F_X7_meets_11 n l0 l1 l2 l3 l4 l5 h = some (r, h') → FrR h h'
  | 0, _, _, _, _, _, _, _, _, _, hF => by cases hF
  | n + 1, _, _, _, _, _, _, _, _, _, hF => f_X7_meets_11b (f_X7_meets_11 n) hF
theorem f_X7_meets_0 {l0 l1 l2 : Int} {h : zH} {r : Int} {h' : zH} (hF : F_X7_meets_0 l0 l1 l2 h = some (r, h')) : FrR h h' := by
  unfold F_X7_meets_0 at hF
  obtain ⟨g1, hF⟩ := zg hF
  exact (frrR h).tr (f_X7_meets_11 _ _ _ _ _ _ _ _ _ _ hF)
theorem fr_X7_meets {l0 l1 l2 : Int} {h : zH} {r : Int} {h' : zH} (hF : F_X7_meets l0 l1 l2 h = some (r, h')) : FrR h h' := f_X7_meets_0 hF
theorem f_X3_holdNoMore_4b {ag4 : Int → Int → Int → Int → zH → zO} (hag4 : ∀ (l0 l1 l2 l3 : Int) (h : zH) (r : Int) (h' : zH), ag4 l0 l1 l2 l3 h = some (r, h') → FrR h h') {l0 l1 l2 l3 : Int} {h : zH} {r : Int} {h' : zH} (hF : F_X3_holdNoMore_4b ag4 l0 l1 l2 l3 h = some (r, h')) : FrR h h' := by
  unfold F_X3_holdNoMore_4b at hF
  obtain ⟨g1, hF⟩ := zg hF
  by_cases c2 : gt h 3 l0 5 ≤ l3
  · have hF := ip c2 hF
    obtain ⟨_, rfl⟩ := zr hF
    exact (frpR (by decide) (frrR h))
  · have hF := im c2 hF
    obtain ⟨g3, hF⟩ := zg hF
    obtain ⟨g4, hF⟩ := zg hF
    obtain ⟨g5, hF⟩ := zg hF
    by_cases c6 : gt h 29 (gt h 3 l0 4) l3 = gt h 6 l1 0
    · have hF := ip c6 hF
      exact (frrR h).tr (hag4 _ _ _ _ _ _ _ hF)
    · have hF := im c6 hF
      obtain ⟨g7, hF⟩ := zg hF
      exact (frpR (by decide) (frrR h)).tr (hag4 _ _ _ _ _ _ _ hF)
theorem f_X3_holdNoMore_4 : ∀ (n : Nat) (l0 l1 l2 l3 : Int) (h : zH) (r : Int) (h' : zH), F_X3_holdNoMore_4 n l0 l1 l2 l3 h = some (r, h') → FrR h h'
  | 0, _, _, _, _, _, _, _, hF => by cases hF
  | n + 1, _, _, _, _, _, _, _, hF => f_X3_holdNoMore_4b (f_X3_holdNoMore_4 n) hF
theorem f_X3_holdNoMore_0 {l0 l1 : Int} {h : zH} {r : Int} {h' : zH} (hF : F_X3_holdNoMore_0 l0 l1 h = some (r, h')) : FrR h h' := by
  unfold F_X3_holdNoMore_0 at hF
  exact (frrR h).tr (f_X3_holdNoMore_4 _ _ _ _ _ _ _ _ hF)
theorem fr_X3_holdNoMore {l0 l1 : Int} {h : zH} {r : Int} {h' : zH} (hF : F_X3_holdNoMore l0 l1 h = some (r, h')) : FrR h h' := f_X3_holdNoMore_0 hF
theorem f_X3_charge_0 {l0 l1 : Int} {h : zH} {r : Int} {h' : zH} (hF : F_X3_charge_0 l0 l1 h = some (r, h')) : FrR h h' := by
  unfold F_X3_charge_0 at hF
  obtain ⟨g1, hF⟩ := zg hF
  by_cases c2 : gt h 6 l1 4 < 0
  · have hF := ip c2 hF
    obtain ⟨_, rfl⟩ := zr hF
    exact (frrR h)
  · have hF := im c2 hF
    by_cases c3 : 8 ≤ gt h 6 l1 4
    · have hF := ip c3 hF
      obtain ⟨_, rfl⟩ := zr hF
      exact (frrR h)
    · have hF := im c3 hF
      obtain ⟨g4, hF⟩ := zg hF
      obtain ⟨g5, hF⟩ := zg hF
      obtain ⟨g6, hF⟩ := zg hF
      obtain ⟨_, rfl⟩ := zr hF
      exact (frpR (by decide) (frrR h))
theorem fr_X3_charge {l0 l1 : Int} {h : zH} {r : Int} {h' : zH} (hF : F_X3_charge l0 l1 h = some (r, h')) : FrR h h' := f_X3_charge_0 hF
theorem f_X3_toCleaning_0 {l0 l1 : Int} {h : zH} {r : Int} {h' : zH} (hF : F_X3_toCleaning_0 l0 l1 h = some (r, h')) : FrR h h' := by
  unfold F_X3_toCleaning_0 at hF
  obtain ⟨g1, hF⟩ := zg hF
  by_cases c2 : 60 ≤ gt h 3 l0 3
  · have hF := ip c2 hF
    obtain ⟨_, rfl⟩ := zr hF
    exact (frrR h)
  · have hF := im c2 hF
    obtain ⟨g3, hF⟩ := zg hF
    obtain ⟨g4, hF⟩ := zg hF
    obtain ⟨g5, hF⟩ := zg hF
    have hF := zl_e hF
    have fk6 : FrR h (pt (pt h 28 (gt h 3 l0 2) (gt h 3 l0 3) (gt h 6 l1 0)) 3 l0 3 (wI ((gt (pt h 28 (gt h 3 l0 2) (gt h 3 l0 3) (gt h 6 l1 0)) 3 l0 3) + 1))) := (frpR (by decide) (frpR (by decide) (frrR h)))
    generalize pt (pt h 28 (gt h 3 l0 2) (gt h 3 l0 3) (gt h 6 l1 0)) 3 l0 3 (wI ((gt (pt h 28 (gt h 3 l0 2) (gt h 3 l0 3) (gt h 6 l1 0)) 3 l0 3) + 1)) = k6 at hF fk6
    obtain ⟨_, rfl⟩ := zr hF
    exact fk6
theorem fr_X3_toCleaning {l0 l1 : Int} {h : zH} {r : Int} {h' : zH} (hF : F_X3_toCleaning l0 l1 h = some (r, h')) : FrR h h' := f_X3_toCleaning_0 hF
theorem f_X5_add_0 {l0 l1 l2 l3 : Int} {h : zH} {r : Int} {h' : zH} (hF : F_X5_add_0 l0 l1 l2 l3 h = some (r, h')) : FrR h h' := by
  unfold F_X5_add_0 at hF
  obtain ⟨g1, hF⟩ := zg hF
  by_cases c2 : 59 ≤ gt h 5 l0 4
  · have hF := ip c2 hF
    obtain ⟨g3, hF⟩ := zg hF
    obtain ⟨g4, hF⟩ := zg hF
    obtain ⟨g5, hF⟩ := zg hF
    obtain ⟨g6, hF⟩ := zg hF
    have hF := zl_e hF
    have fk7 : FrR h (pt (pt (pt h 5 l0 4 0) 31 (gt (pt h 5 l0 4 0) 5 l0 0) (gt (pt h 5 l0 4 0) 5 l0 4) l1) 32 (gt (pt (pt h 5 l0 4 0) 31 (gt (pt h 5 l0 4 0) 5 l0 0) (gt (pt h 5 l0 4 0) 5 l0 4) l1) 5 l0 1) (gt (pt (pt h 5 l0 4 0) 31 (gt (pt h 5 l0 4 0) 5 l0 0) (gt (pt h 5 l0 4 0) 5 l0 4) l1) 5 l0 4) l2) := (frpR (by decide) (frpR (by decide) (frpR (by decide) (frrR h))))
    generalize pt (pt (pt h 5 l0 4 0) 31 (gt (pt h 5 l0 4 0) 5 l0 0) (gt (pt h 5 l0 4 0) 5 l0 4) l1) 32 (gt (pt (pt h 5 l0 4 0) 31 (gt (pt h 5 l0 4 0) 5 l0 0) (gt (pt h 5 l0 4 0) 5 l0 4) l1) 5 l0 1) (gt (pt (pt h 5 l0 4 0) 31 (gt (pt h 5 l0 4 0) 5 l0 0) (gt (pt h 5 l0 4 0) 5 l0 4) l1) 5 l0 4) l2 = k7 at hF fk7
    by_cases c8 : l3 = 0
    · have hF := ip c8 hF
      obtain ⟨g9, hF⟩ := zg hF
      obtain ⟨g10, hF⟩ := zg hF
      by_cases c11 : 60 ≤ gt (pt k7 33 (gt k7 5 l0 2) (gt k7 5 l0 4) 0) 5 l0 3
      · have hF := ip c11 hF
        obtain ⟨_, rfl⟩ := zr hF
        exact (frpR (by decide) fk7)
      · have hF := im c11 hF
        obtain ⟨_, rfl⟩ := zr hF
        exact (frpR (by decide) (frpR (by decide) fk7))
    · have hF := im c8 hF
      obtain ⟨g12, hF⟩ := zg hF
      obtain ⟨g13, hF⟩ := zg hF
      by_cases c14 : 60 ≤ gt (pt k7 33 (gt k7 5 l0 2) (gt k7 5 l0 4) 1) 5 l0 3
      · have hF := ip c14 hF
        obtain ⟨_, rfl⟩ := zr hF
        exact (frpR (by decide) fk7)
      · have hF := im c14 hF
        obtain ⟨_, rfl⟩ := zr hF
        exact (frpR (by decide) (frpR (by decide) fk7))
  · have hF := im c2 hF
    obtain ⟨g15, hF⟩ := zg hF
    obtain ⟨g16, hF⟩ := zg hF
    have hF := zl_e hF
    have fk17 : FrR h (pt (pt h 5 l0 4 (wI ((gt h 5 l0 4) + 1))) 31 (gt (pt h 5 l0 4 (wI ((gt h 5 l0 4) + 1))) 5 l0 0) (gt (pt h 5 l0 4 (wI ((gt h 5 l0 4) + 1))) 5 l0 4) l1) := (frpR (by decide) (frpR (by decide) (frrR h)))
    generalize pt (pt h 5 l0 4 (wI ((gt h 5 l0 4) + 1))) 31 (gt (pt h 5 l0 4 (wI ((gt h 5 l0 4) + 1))) 5 l0 0) (gt (pt h 5 l0 4 (wI ((gt h 5 l0 4) + 1))) 5 l0 4) l1 = k17 at hF fk17
    obtain ⟨g18, hF⟩ := zg hF
    obtain ⟨g19, hF⟩ := zg hF
    by_cases c20 : l3 = 0
    · have hF := ip c20 hF
      obtain ⟨g21, hF⟩ := zg hF
      obtain ⟨g22, hF⟩ := zg hF
      have hF := zl_e hF
      have fk23 : FrR h (pt (pt k17 32 (gt k17 5 l0 1) (gt k17 5 l0 4) l2) 33 (gt (pt k17 32 (gt k17 5 l0 1) (gt k17 5 l0 4) l2) 5 l0 2) (gt (pt k17 32 (gt k17 5 l0 1) (gt k17 5 l0 4) l2) 5 l0 4) 0) := (frpR (by decide) (frpR (by decide) fk17))
      generalize pt (pt k17 32 (gt k17 5 l0 1) (gt k17 5 l0 4) l2) 33 (gt (pt k17 32 (gt k17 5 l0 1) (gt k17 5 l0 4) l2) 5 l0 2) (gt (pt k17 32 (gt k17 5 l0 1) (gt k17 5 l0 4) l2) 5 l0 4) 0 = k23 at hF fk23
      by_cases c24 : 60 ≤ gt k23 5 l0 3
      · have hF := ip c24 hF
        obtain ⟨_, rfl⟩ := zr hF
        exact fk23
      · have hF := im c24 hF
        obtain ⟨_, rfl⟩ := zr hF
        exact (frpR (by decide) fk23)
    · have hF := im c20 hF
      obtain ⟨g25, hF⟩ := zg hF
      obtain ⟨g26, hF⟩ := zg hF
      have hF := zl_e hF
      have fk27 : FrR h (pt (pt k17 32 (gt k17 5 l0 1) (gt k17 5 l0 4) l2) 33 (gt (pt k17 32 (gt k17 5 l0 1) (gt k17 5 l0 4) l2) 5 l0 2) (gt (pt k17 32 (gt k17 5 l0 1) (gt k17 5 l0 4) l2) 5 l0 4) 1) := (frpR (by decide) (frpR (by decide) fk17))
      generalize pt (pt k17 32 (gt k17 5 l0 1) (gt k17 5 l0 4) l2) 33 (gt (pt k17 32 (gt k17 5 l0 1) (gt k17 5 l0 4) l2) 5 l0 2) (gt (pt k17 32 (gt k17 5 l0 1) (gt k17 5 l0 4) l2) 5 l0 4) 1 = k27 at hF fk27
      by_cases c28 : 60 ≤ gt k27 5 l0 3
      · have hF := ip c28 hF
        obtain ⟨_, rfl⟩ := zr hF
        exact fk27
      · have hF := im c28 hF
        obtain ⟨_, rfl⟩ := zr hF
        exact (frpR (by decide) fk27)
theorem fr_X5_add {l0 l1 l2 l3 : Int} {h : zH} {r : Int} {h' : zH} (hF : F_X5_add l0 l1 l2 l3 h = some (r, h')) : FrR h h' := f_X5_add_0 hF
theorem f_X3_takeBack_45 {l0 l1 l2 l3 : Int} {h : zH} {r : Int} {h' : zH} (hF : F_X3_takeBack_45 l0 l1 l2 l3 h = some (r, h')) : FrR h h' := by
  unfold F_X3_takeBack_45 at hF
  obtain ⟨g1, hF⟩ := zg hF
  obtain ⟨g2, hF⟩ := zg hF
  obtain ⟨g4, hF⟩ := zg hF
  obtain ⟨r3, h3, e3, hF⟩ := zb_some hF
  obtain ⟨_, hF⟩ := zg hF
  obtain ⟨_, rfl⟩ := zr hF
  exact ((frrR h).tr (fr_X5_add e3))
theorem f_X3_takeBack_0 {l0 l1 l2 : Int} {h : zH} {r : Int} {h' : zH} (hF : F_X3_takeBack_0 l0 l1 l2 h = some (r, h')) : FrR h h' := by
  unfold F_X3_takeBack_0 at hF
  obtain ⟨g1, hF⟩ := zg hF
  obtain ⟨g2, hF⟩ := zg hF
  obtain ⟨g4, hF⟩ := zg hF
  obtain ⟨r3, h3, e3, hF⟩ := zb_some hF
  obtain ⟨r5, h5, e5, hF⟩ := zb_some hF
  by_cases c6 : r3 = 0
  · have hF := ip c6 hF
    obtain ⟨r7, h7, e7, hF⟩ := zb_some hF
    exact ((frpR (by decide) (((frrR h).tr (fr_X7_meets e3)).tr (fr_X3_holdNoMore e5))).tr (fr_X3_toCleaning e7)).tr (f_X3_takeBack_45 hF)
  · have hF := im c6 hF
    obtain ⟨r8, h8, e8, hF⟩ := zb_some hF
    exact ((frpR (by decide) (((frrR h).tr (fr_X7_meets e3)).tr (fr_X3_holdNoMore e5))).tr (fr_X3_charge e8)).tr (f_X3_takeBack_45 hF)
theorem fr_X3_takeBack {l0 l1 l2 : Int} {h : zH} {r : Int} {h' : zH} (hF : F_X3_takeBack l0 l1 l2 h = some (r, h')) : FrR h h' := f_X3_takeBack_0 hF
theorem f_X8_giveUp_36 {l0 l1 l2 : Int} {h : zH} {r : Int} {h' : zH} (hF : F_X8_giveUp_36 l0 l1 l2 h = some (r, h')) : FrR h h' := by
  unfold F_X8_giveUp_36 at hF
  obtain ⟨g1, hF⟩ := zg hF
  by_cases c2 : gt h 4 l1 1 = 2
  · have hF := ip c2 hF
    obtain ⟨_, rfl⟩ := zr hF
    exact (frrR h)
  · have hF := im c2 hF
    by_cases c3 : gt h 4 l1 0 = -1
    · have hF := ip c3 hF
      obtain ⟨_, rfl⟩ := zr hF
      exact (frrR h)
    · have hF := im c3 hF
      obtain ⟨g4, hF⟩ := zg hF
      obtain ⟨g6, hF⟩ := zg hF
      obtain ⟨r5, h5, e5, hF⟩ := zb_some hF
      by_cases c7 : r5 = 0
      · have hF := ip c7 hF
        obtain ⟨_, rfl⟩ := zr hF
        exact ((frrR h).tr (fr_X3_takeBack e5))
      · have hF := im c7 hF
        obtain ⟨_, rfl⟩ := zr hF
        exact ((frrR h).tr (fr_X3_takeBack e5))
theorem f_X8_giveUp_5b {ag5 : Int → Int → Int → Int → Int → zH → zO} (hag5 : ∀ (l0 l1 l2 l3 l4 : Int) (h : zH) (r : Int) (h' : zH), ag5 l0 l1 l2 l3 l4 h = some (r, h') → FrR h h') {l0 l1 l2 l3 l4 : Int} {h : zH} {r : Int} {h' : zH} (hF : F_X8_giveUp_5b ag5 l0 l1 l2 l3 l4 h = some (r, h')) : FrR h h' := by
  unfold F_X8_giveUp_5b at hF
  by_cases c1 : 160 ≤ l4
  · have hF := ip c1 hF
    exact (frrR h).tr (f_X8_giveUp_36 hF)
  · have hF := im c1 hF
    by_cases c2 : l3 = -1
    · have hF := ip c2 hF
      exact (frrR h).tr (f_X8_giveUp_36 hF)
    · have hF := im c2 hF
      obtain ⟨g3, hF⟩ := zg hF
      obtain ⟨r4, h4, e4, hF⟩ := zb_some hF
      exact ((frrR h).tr (fr_X4_close e4)).tr (hag5 _ _ _ _ _ _ _ _ hF)
theorem f_X8_giveUp_5 : ∀ (n : Nat) (l0 l1 l2 l3 l4 : Int) (h : zH) (r : Int) (h' : zH), F_X8_giveUp_5 n l0 l1 l2 l3 l4 h = some (r, h') → FrR h h'
  | 0, _, _, _, _, _, _, _, _, hF => by cases hF
  | n + 1, _, _, _, _, _, _, _, _, hF => f_X8_giveUp_5b (f_X8_giveUp_5 n) hF
theorem f_X8_giveUp_0 {l0 l1 l2 : Int} {h : zH} {r : Int} {h' : zH} (hF : F_X8_giveUp_0 l0 l1 l2 h = some (r, h')) : FrR h h' := by
  unfold F_X8_giveUp_0 at hF
  exact (frrR h).tr (f_X8_giveUp_5 _ _ _ _ _ _ _ _ _ hF)
theorem fr_X8_giveUp {l0 l1 l2 : Int} {h : zH} {r : Int} {h' : zH} (hF : F_X8_giveUp l0 l1 l2 h = some (r, h')) : FrR h h' := f_X8_giveUp_0 hF
theorem f_X8_partOf_0 {l0 : Int} {h : zH} {r : Int} {h' : zH} (hF : F_X8_partOf_0 l0 h = some (r, h')) : FrR h h' := by
  unfold F_X8_partOf_0 at hF
  by_cases c1 : l0 = -1
  · have hF := ip c1 hF
    obtain ⟨_, rfl⟩ := zr hF
    exact (frrR h)
  · have hF := im c1 hF
    obtain ⟨g2, hF⟩ := zg hF
    by_cases c3 : gt h 4 l0 0 ≠ -1
    · have hF := ip c3 hF
      obtain ⟨g4, hF⟩ := zg hF
      obtain ⟨_, rfl⟩ := zr hF
      exact (frrR h)
    · have hF := im c3 hF
      obtain ⟨_, rfl⟩ := zr hF
      exact (frrR h)
theorem fr_X8_partOf {l0 : Int} {h : zH} {r : Int} {h' : zH} (hF : F_X8_partOf l0 h = some (r, h')) : FrR h h' := f_X8_partOf_0 hF
theorem f_X2_add_0 {l0 l1 l2 l3 l4 : Int} {h : zH} {r : Int} {h' : zH} (hF : F_X2_add_0 l0 l1 l2 l3 l4 h = some (r, h')) : FrR h h' := by
  unfold F_X2_add_0 at hF
  obtain ⟨g1, hF⟩ := zg hF
  obtain ⟨r2, h2, e2, hF⟩ := zb_some hF
  by_cases c3 : r2 ≠ 0
  · have hF := ip c3 hF
    obtain ⟨g4, hF⟩ := zg hF
    obtain ⟨g5, hF⟩ := zg hF
    obtain ⟨g6, hF⟩ := zg hF
    obtain ⟨g7, hF⟩ := zg hF
    have hF := zl_e hF
    have fk8 : FrR h (pt (pt h2 21 (gt h2 2 l0 0) (gt h2 2 l0 6) l1) 22 (gt (pt h2 21 (gt h2 2 l0 0) (gt h2 2 l0 6) l1) 2 l0 1) (gt (pt h2 21 (gt h2 2 l0 0) (gt h2 2 l0 6) l1) 2 l0 6) l2) := (frpR (by decide) (frpR (by decide) ((frrR h).tr (fr_X11_within e2))))
    generalize pt (pt h2 21 (gt h2 2 l0 0) (gt h2 2 l0 6) l1) 22 (gt (pt h2 21 (gt h2 2 l0 0) (gt h2 2 l0 6) l1) 2 l0 1) (gt (pt h2 21 (gt h2 2 l0 0) (gt h2 2 l0 6) l1) 2 l0 6) l2 = k8 at hF fk8
    obtain ⟨g9, hF⟩ := zg hF
    obtain ⟨g10, hF⟩ := zg hF
    obtain ⟨g11, hF⟩ := zg hF
    obtain ⟨g12, hF⟩ := zg hF
    have hF := zl_e hF
    have fk13 : FrR h (pt (pt k8 23 (gt k8 2 l0 2) (gt k8 2 l0 6) l3) 24 (gt (pt k8 23 (gt k8 2 l0 2) (gt k8 2 l0 6) l3) 2 l0 3) (gt (pt k8 23 (gt k8 2 l0 2) (gt k8 2 l0 6) l3) 2 l0 6) l4) := (frpR (by decide) (frpR (by decide) fk8))
    generalize pt (pt k8 23 (gt k8 2 l0 2) (gt k8 2 l0 6) l3) 24 (gt (pt k8 23 (gt k8 2 l0 2) (gt k8 2 l0 6) l3) 2 l0 3) (gt (pt k8 23 (gt k8 2 l0 2) (gt k8 2 l0 6) l3) 2 l0 6) l4 = k13 at hF fk13
    obtain ⟨g14, hF⟩ := zg hF
    obtain ⟨g15, hF⟩ := zg hF
    obtain ⟨g16, hF⟩ := zg hF
    obtain ⟨g17, hF⟩ := zg hF
    have hF := zl_e hF
    have fk18 : FrR h (pt (pt k13 25 (gt k13 2 l0 4) (gt k13 2 l0 6) (-1)) 26 (gt (pt k13 25 (gt k13 2 l0 4) (gt k13 2 l0 6) (-1)) 2 l0 5) (gt (pt k13 25 (gt k13 2 l0 4) (gt k13 2 l0 6) (-1)) 2 l0 6) (-1)) := (frpR (by decide) (frpR (by decide) fk13))
    generalize pt (pt k13 25 (gt k13 2 l0 4) (gt k13 2 l0 6) (-1)) 26 (gt (pt k13 25 (gt k13 2 l0 4) (gt k13 2 l0 6) (-1)) 2 l0 5) (gt (pt k13 25 (gt k13 2 l0 4) (gt k13 2 l0 6) (-1)) 2 l0 6) (-1) = k18 at hF fk18
    obtain ⟨_, rfl⟩ := zr hF
    exact (frpR (by decide) fk18)
  · have hF := im c3 hF
    obtain ⟨_, rfl⟩ := zr hF
    exact ((frrR h).tr (fr_X11_within e2))
theorem fr_X2_add {l0 l1 l2 l3 l4 : Int} {h : zH} {r : Int} {h' : zH} (hF : F_X2_add l0 l1 l2 l3 l4 h = some (r, h')) : FrR h h' := f_X2_add_0 hF
theorem f_X2_suppress_0 {l0 l1 l2 : Int} {h : zH} {r : Int} {h' : zH} (hF : F_X2_suppress_0 l0 l1 l2 h = some (r, h')) : FrR h h' := by
  unfold F_X2_suppress_0 at hF
  obtain ⟨g1, hF⟩ := zg hF
  obtain ⟨r2, h2, e2, hF⟩ := zb_some hF
  by_cases c3 : r2 = 0
  · have hF := ip c3 hF
    obtain ⟨_, rfl⟩ := zr hF
    exact ((frrR h).tr (fr_X11_within e2))
  · have hF := im c3 hF
    obtain ⟨g4, hF⟩ := zg hF
    obtain ⟨g5, hF⟩ := zg hF
    obtain ⟨_, rfl⟩ := zr hF
    exact (frpR (by decide) ((frrR h).tr (fr_X11_within e2)))
theorem fr_X2_suppress {l0 l1 l2 : Int} {h : zH} {r : Int} {h' : zH} (hF : F_X2_suppress l0 l1 l2 h = some (r, h')) : FrR h h' := f_X2_suppress_0 hF
theorem f_X8_failAtEnd_0 {l0 l1 l2 : Int} {h : zH} {r : Int} {h' : zH} (hF : F_X8_failAtEnd_0 l0 l1 l2 h = some (r, h')) : FrR h h' := by
  unfold F_X8_failAtEnd_0 at hF
  obtain ⟨g1, hF⟩ := zg hF
  obtain ⟨g2, hF⟩ := zg hF
  obtain ⟨g4, hF⟩ := zg hF
  obtain ⟨r3, h3, e3, hF⟩ := zb_some hF
  by_cases c5 : r3 ≠ (-1)
  · have hF := ip c5 hF
    by_cases c6 : gt h3 8 l0 12 ≠ 3
    · have hF := ip c6 hF
      obtain ⟨_, rfl⟩ := zr hF
      exact (frpR (by decide) (frpR (by decide) ((frrR h).tr (fr_X2_add e3))))
    · have hF := im c6 hF
      obtain ⟨g8, hF⟩ := zg hF
      obtain ⟨r7, h7, e7, hF⟩ := zb_some hF
      obtain ⟨_, rfl⟩ := zr hF
      exact (((frrR h).tr (fr_X2_add e3)).tr (fr_X2_suppress e7))
  · have hF := im c5 hF
    obtain ⟨_, rfl⟩ := zr hF
    exact (frpR (by decide) ((frrR h).tr (fr_X2_add e3)))
theorem fr_X8_failAtEnd {l0 l1 l2 : Int} {h : zH} {r : Int} {h' : zH} (hF : F_X8_failAtEnd l0 l1 l2 h = some (r, h')) : FrR h h' := f_X8_failAtEnd_0 hF
theorem f_X8_endInnermost_63 {l0 : Int} {h : zH} {r : Int} {h' : zH} (hF : F_X8_endInnermost_63 l0 h = some (r, h')) : FrR h h' := by
  unfold F_X8_endInnermost_63 at hF
  obtain ⟨g1, hF⟩ := zg hF
  by_cases c2 : gt h 8 l0 12 = 4
  · have hF := ip c2 hF
    obtain ⟨_, rfl⟩ := zr hF
    exact (frrR h)
  · have hF := im c2 hF
    by_cases c3 : gt h 8 l0 7 ≤ 0
    · have hF := ip c3 hF
      obtain ⟨_, rfl⟩ := zr hF
      exact (frrR h)
    · have hF := im c3 hF
      obtain ⟨_, rfl⟩ := zr hF
      exact (frpR (by decide) (frpR (by decide) (frrR h)))
theorem f_X8_endInnermost_12b {ag12 : Int → Int → Int → zH → zO} (hag12 : ∀ (l0 l1 l2 : Int) (h : zH) (r : Int) (h' : zH), ag12 l0 l1 l2 h = some (r, h') → FrR h h') {l0 l1 l2 : Int} {h : zH} {r : Int} {h' : zH} (hF : F_X8_endInnermost_12b ag12 l0 l1 l2 h = some (r, h')) : FrR h h' := by
  unfold F_X8_endInnermost_12b at hF
  by_cases c1 : 160 ≤ l2
  · have hF := ip c1 hF
    exact (frrR h).tr (f_X8_endInnermost_63 hF)
  · have hF := im c1 hF
    obtain ⟨g2, hF⟩ := zg hF
    by_cases c3 : gt h 9 l1 2 = -1
    · have hF := ip c3 hF
      exact (frrR h).tr (f_X8_endInnermost_63 hF)
    · have hF := im c3 hF
      obtain ⟨g4, hF⟩ := zg hF
      by_cases c5 : gt h 8 l0 12 = 4
      · have hF := ip c5 hF
        exact (frrR h).tr (f_X8_endInnermost_63 hF)
      · have hF := im c5 hF
        obtain ⟨r6, h6, e6, hF⟩ := zb_some hF
        by_cases c7 : r6 = 0
        · have hF := ip c7 hF
          exact ((frrR h).tr (fr_X8_giveUp e6)).tr (hag12 _ _ _ _ _ _ hF)
        · have hF := im c7 hF
          obtain ⟨r8, h8, e8, hF⟩ := zb_some hF
          obtain ⟨r9, h9, e9, hF⟩ := zb_some hF
          exact ((((frrR h).tr (fr_X8_giveUp e6)).tr (fr_X8_partOf e8)).tr (fr_X8_failAtEnd e9)).tr (hag12 _ _ _ _ _ _ hF)
theorem f_X8_endInnermost_12 : ∀ (n : Nat) (l0 l1 l2 : Int) (h : zH) (r : Int) (h' : zH), F_X8_endInnermost_12 n l0 l1 l2 h = some (r, h') → FrR h h'
  | 0, _, _, _, _, _, _, hF => by cases hF
  | n + 1, _, _, _, _, _, _, hF => f_X8_endInnermost_12b (f_X8_endInnermost_12 n) hF
theorem f_X8_endInnermost_0 {l0 : Int} {h : zH} {r : Int} {h' : zH} (hF : F_X8_endInnermost_0 l0 h = some (r, h')) : FrR h h' := by
  unfold F_X8_endInnermost_0 at hF
  obtain ⟨g1, hF⟩ := zg hF
  obtain ⟨g2, hF⟩ := zg hF
  obtain ⟨g3, hF⟩ := zg hF
  exact (frrR h).tr (f_X8_endInnermost_12 _ _ _ _ _ _ _ hF)
theorem fr_X8_endInnermost {l0 : Int} {h : zH} {r : Int} {h' : zH} (hF : F_X8_endInnermost l0 h = some (r, h')) : FrR h h' := f_X8_endInnermost_0 hF
theorem f_X8_pop_0 {l0 : Int} {h : zH} {r : Int} {h' : zH} (hF : F_X8_pop_0 l0 h = some (r, h')) : FrR h h' := by
  unfold F_X8_pop_0 at hF
  obtain ⟨g1, hF⟩ := zg hF
  by_cases c2 : gt h 8 l0 5 ≤ 0
  · have hF := ip c2 hF
    obtain ⟨_, rfl⟩ := zr hF
    exact (frrR h)
  · have hF := im c2 hF
    obtain ⟨_, rfl⟩ := zr hF
    exact (frpR (by decide) (frrR h))
theorem fr_X8_pop {l0 : Int} {h : zH} {r : Int} {h' : zH} (hF : F_X8_pop l0 h = some (r, h')) : FrR h h' := f_X8_pop_0 hF
theorem f_X8_endScopeBlock_0 {l0 l1 : Int} {h : zH} {r : Int} {h' : zH} (hF : F_X8_endScopeBlock_0 l0 l1 h = some (r, h')) : FrR h h' := by
  unfold F_X8_endScopeBlock_0 at hF
  obtain ⟨g2, hF⟩ := zg hF
  obtain ⟨r1, h1, e1, hF⟩ := zb_some hF
  obtain ⟨r3, h3, e3, hF⟩ := zb_some hF
  by_cases c4 : gt h3 8 l0 12 ≠ 0
  · have hF := ip c4 hF
    obtain ⟨_, rfl⟩ := zr hF
    exact (((frrR h).tr (fr_X8_endInnermost e1)).tr (fr_X8_pop e3))
  · have hF := im c4 hF
    obtain ⟨g5, hF⟩ := zg hF
    obtain ⟨_, rfl⟩ := zr hF
    exact (frpR (by decide) (((frrR h).tr (fr_X8_endInnermost e1)).tr (fr_X8_pop e3)))
theorem fr_X8_endScopeBlock {l0 l1 : Int} {h : zH} {r : Int} {h' : zH} (hF : F_X8_endScopeBlock l0 l1 h = some (r, h')) : FrR h h' := f_X8_endScopeBlock_0 hF
theorem f_X10_nextOf_0 {l0 l1 : Int} {h : zH} {r : Int} {h' : zH} (hF : F_X10_nextOf_0 l0 l1 h = some (r, h')) : FrR h h' := by
  unfold F_X10_nextOf_0 at hF
  obtain ⟨g1, hF⟩ := zg hF
  obtain ⟨r2, h2, e2, hF⟩ := zb_some hF
  by_cases c3 : r2 = 0
  · have hF := ip c3 hF
    obtain ⟨_, rfl⟩ := zr hF
    exact ((frrR h).tr (fr_X11_within e2))
  · have hF := im c3 hF
    obtain ⟨g4, hF⟩ := zg hF
    obtain ⟨g5, hF⟩ := zg hF
    obtain ⟨_, rfl⟩ := zr hF
    exact ((frrR h).tr (fr_X11_within e2))
theorem fr_X10_nextOf {l0 l1 : Int} {h : zH} {r : Int} {h' : zH} (hF : F_X10_nextOf l0 l1 h = some (r, h')) : FrR h h' := f_X10_nextOf_0 hF
theorem f_X8_leaveLoop_0 {l0 l1 l2 : Int} {h : zH} {r : Int} {h' : zH} (hF : F_X8_leaveLoop_0 l0 l1 l2 h = some (r, h')) : FrR h h' := by
  unfold F_X8_leaveLoop_0 at hF
  obtain ⟨g2, hF⟩ := zg hF
  obtain ⟨r1, h1, e1, hF⟩ := zb_some hF
  by_cases c3 : gt h1 8 l0 12 ≠ 2
  · have hF := ip c3 hF
    obtain ⟨_, rfl⟩ := zr hF
    exact ((frrR h).tr (fr_X8_pop e1))
  · have hF := im c3 hF
    obtain ⟨g4, hF⟩ := zg hF
    obtain ⟨g5, hF⟩ := zg hF
    obtain ⟨g7, hF⟩ := zg hF
    obtain ⟨r6, h6, e6, hF⟩ := zb_some hF
    obtain ⟨_, rfl⟩ := zr hF
    exact (frpR (by decide) ((frpR (by decide) ((frrR h).tr (fr_X8_pop e1))).tr (fr_X10_nextOf e6)))
theorem fr_X8_leaveLoop {l0 l1 l2 : Int} {h : zH} {r : Int} {h' : zH} (hF : F_X8_leaveLoop l0 l1 l2 h = some (r, h')) : FrR h h' := f_X8_leaveLoop_0 hF
theorem f_X8_leaveLastWay_44 {l0 : Int} {h : zH} {r : Int} {h' : zH} (hF : F_X8_leaveLastWay_44 l0 h = some (r, h')) : FrR h h' := by
  unfold F_X8_leaveLastWay_44 at hF
  obtain ⟨g2, hF⟩ := zg hF
  obtain ⟨r1, h1, e1, hF⟩ := zb_some hF
  obtain ⟨_, rfl⟩ := zr hF
  exact ((frrR h).tr (fr_X8_pop e1))
theorem f_X8_leaveLastWay_0 {l0 l1 : Int} {h : zH} {r : Int} {h' : zH} (hF : F_X8_leaveLastWay_0 l0 l1 h = some (r, h')) : FrR h h' := by
  unfold F_X8_leaveLastWay_0 at hF
  obtain ⟨g1, hF⟩ := zg hF
  by_cases c2 : gt h 0 l1 5 ≠ 3
  · have hF := ip c2 hF
    exact (frrR h).tr (f_X8_leaveLastWay_44 hF)
  · have hF := im c2 hF
    obtain ⟨g3, hF⟩ := zg hF
    by_cases c4 : gt h 8 l0 12 ≠ 3
    · have hF := ip c4 hF
      exact (frpR (by decide) (frrR h)).tr (f_X8_leaveLastWay_44 hF)
    · have hF := im c4 hF
      obtain ⟨g6, hF⟩ := zg hF
      obtain ⟨r5, h5, e5, hF⟩ := zb_some hF
      exact ((frrR h).tr (fr_X2_suppress e5)).tr (f_X8_leaveLastWay_44 hF)
theorem fr_X8_leaveLastWay {l0 l1 : Int} {h : zH} {r : Int} {h' : zH} (hF : F_X8_leaveLastWay l0 l1 h = some (r, h')) : FrR h h' := f_X8_leaveLastWay_0 hF
theorem f_X2_kindOf_0 {l0 l1 : Int} {h : zH} {r : Int} {h' : zH} (hF : F_X2_kindOf_0 l0 l1 h = some (r, h')) : FrR h h' := by
  unfold F_X2_kindOf_0 at hF
  obtain ⟨g1, hF⟩ := zg hF
  obtain ⟨r2, h2, e2, hF⟩ := zb_some hF
  by_cases c3 : r2 = 0
  · have hF := ip c3 hF
    obtain ⟨_, rfl⟩ := zr hF
    exact ((frrR h).tr (fr_X11_within e2))
  · have hF := im c3 hF
    obtain ⟨g4, hF⟩ := zg hF
    obtain ⟨g5, hF⟩ := zg hF
    obtain ⟨_, rfl⟩ := zr hF
    exact ((frrR h).tr (fr_X11_within e2))
theorem fr_X2_kindOf {l0 l1 : Int} {h : zH} {r : Int} {h' : zH} (hF : F_X2_kindOf l0 l1 h = some (r, h')) : FrR h h' := f_X2_kindOf_0 hF
theorem f_X10_aAt_0 {l0 l1 : Int} {h : zH} {r : Int} {h' : zH} (hF : F_X10_aAt_0 l0 l1 h = some (r, h')) : FrR h h' := by
  unfold F_X10_aAt_0 at hF
  obtain ⟨g1, hF⟩ := zg hF
  obtain ⟨r2, h2, e2, hF⟩ := zb_some hF
  by_cases c3 : r2 = 0
  · have hF := ip c3 hF
    obtain ⟨_, rfl⟩ := zr hF
    exact ((frrR h).tr (fr_X11_within e2))
  · have hF := im c3 hF
    obtain ⟨g4, hF⟩ := zg hF
    obtain ⟨g5, hF⟩ := zg hF
    obtain ⟨_, rfl⟩ := zr hF
    exact ((frrR h).tr (fr_X11_within e2))
theorem fr_X10_aAt {l0 l1 : Int} {h : zH} {r : Int} {h' : zH} (hF : F_X10_aAt l0 l1 h = some (r, h')) : FrR h h' := f_X10_aAt_0 hF
theorem f_X11_isUnder_4b {ag4 : Int → Int → Int → zH → zO} (hag4 : ∀ (l1 l2 l3 : Int) (h : zH) (r : Int) (h' : zH), ag4 l1 l2 l3 h = some (r, h') → FrR h h') {l1 l2 l3 : Int} {h : zH} {r : Int} {h' : zH} (hF : F_X11_isUnder_4b ag4 l1 l2 l3 h = some (r, h')) : FrR h h' := by
  unfold F_X11_isUnder_4b at hF
  by_cases c1 : 12 ≤ l3
  · have hF := ip c1 hF
    obtain ⟨_, rfl⟩ := zr hF
    exact (frrR h)
  · have hF := im c1 hF
    obtain ⟨r2, h2, e2, hF⟩ := zb_some hF
    by_cases c3 : r2 = 0
    · have hF := ip c3 hF
      obtain ⟨_, rfl⟩ := zr hF
      exact ((frrR h).tr (fr_X11_within e2))
    · have hF := im c3 hF
      by_cases c4 : l2 ≠ l1
      · have hF := ip c4 hF
        obtain ⟨g5, hF⟩ := zg hF
        exact ((frrR h).tr (fr_X11_within e2)).tr (hag4 _ _ _ _ _ _ hF)
      · have hF := im c4 hF
        obtain ⟨_, rfl⟩ := zr hF
        exact ((frrR h).tr (fr_X11_within e2))
theorem f_X11_isUnder_4 : ∀ (n : Nat) (l1 l2 l3 : Int) (h : zH) (r : Int) (h' : zH), F_X11_isUnder_4 n l1 l2 l3 h = some (r, h') → FrR h h'
  | 0, _, _, _, _, _, _, hF => by cases hF
  | n + 1, _, _, _, _, _, _, hF => f_X11_isUnder_4b (f_X11_isUnder_4 n) hF
theorem f_X11_isUnder_0 {l0 l1 : Int} {h : zH} {r : Int} {h' : zH} (hF : F_X11_isUnder_0 l0 l1 h = some (r, h')) : FrR h h' := by
  unfold F_X11_isUnder_0 at hF
  exact (frrR h).tr (f_X11_isUnder_4 _ _ _ _ _ _ _ hF)
theorem fr_X11_isUnder {l0 l1 : Int} {h : zH} {r : Int} {h' : zH} (hF : F_X11_isUnder l0 l1 h = some (r, h')) : FrR h h' := f_X11_isUnder_0 hF
theorem f_X10_guardFor_9b {ag9 : Int → Int → Int → Int → zH → zO} (hag9 : ∀ (l0 l2 l3 l4 : Int) (h : zH) (r : Int) (h' : zH), ag9 l0 l2 l3 l4 h = some (r, h') → FrR h h') {l0 l2 l3 l4 : Int} {h : zH} {r : Int} {h' : zH} (hF : F_X10_guardFor_9b ag9 l0 l2 l3 l4 h = some (r, h')) : FrR h h' := by
  unfold F_X10_guardFor_9b at hF
  by_cases c1 : 40 ≤ l4
  · have hF := ip c1 hF
    obtain ⟨_, rfl⟩ := zr hF
    exact (frrR h)
  · have hF := im c1 hF
    obtain ⟨g3, hF⟩ := zg hF
    obtain ⟨r2, h2, e2, hF⟩ := zb_some hF
    by_cases c4 : r2 ≠ 14
    · have hF := ip c4 hF
      obtain ⟨_, rfl⟩ := zr hF
      exact ((frrR h).tr (fr_X10_opAt e2))
    · have hF := im c4 hF
      obtain ⟨r5, h5, e5, hF⟩ := zb_some hF
      obtain ⟨r6, h6, e6, hF⟩ := zb_some hF
      by_cases c7 : r6 = 0
      · have hF := ip c7 hF
        obtain ⟨r8, h8, e8, hF⟩ := zb_some hF
        exact (((((frrR h).tr (fr_X10_opAt e2)).tr (fr_X10_aAt e5)).tr (fr_X11_isUnder e6)).tr (fr_X10_nextOf e8)).tr (hag9 _ _ _ _ _ _ _ hF)
      · have hF := im c7 hF
        obtain ⟨_, rfl⟩ := zr hF
        exact ((((frrR h).tr (fr_X10_opAt e2)).tr (fr_X10_aAt e5)).tr (fr_X11_isUnder e6))
theorem f_X10_guardFor_9 : ∀ (n : Nat) (l0 l2 l3 l4 : Int) (h : zH) (r : Int) (h' : zH), F_X10_guardFor_9 n l0 l2 l3 l4 h = some (r, h') → FrR h h'
  | 0, _, _, _, _, _, _, _, hF => by cases hF
  | n + 1, _, _, _, _, _, _, _, hF => f_X10_guardFor_9b (f_X10_guardFor_9 n) hF
theorem f_X10_guardFor_0 {l0 l1 l2 : Int} {h : zH} {r : Int} {h' : zH} (hF : F_X10_guardFor_0 l0 l1 l2 h = some (r, h')) : FrR h h' := by
  unfold F_X10_guardFor_0 at hF
  obtain ⟨g2, hF⟩ := zg hF
  obtain ⟨r1, h1, e1, hF⟩ := zb_some hF
  exact ((frrR h).tr (fr_X10_nextOf e1)).tr (f_X10_guardFor_9 _ _ _ _ _ _ _ _ hF)
theorem fr_X10_guardFor {l0 l1 l2 : Int} {h : zH} {r : Int} {h' : zH} (hF : F_X10_guardFor l0 l1 l2 h = some (r, h')) : FrR h h' := f_X10_guardFor_0 hF
theorem f_X8_step_0 {l0 : Int} {h : zH} {r : Int} {h' : zH} (hF : F_X8_step_0 l0 h = some (r, h')) : FrR h h' := by
  unfold F_X8_step_0 at hF
  obtain ⟨g1, hF⟩ := zg hF
  by_cases c2 : gt h 8 l0 14 < 160
  · have hF := ip c2 hF
    obtain ⟨_, rfl⟩ := zr hF
    exact (frpR (by decide) (frrR h))
  · have hF := im c2 hF
    obtain ⟨_, rfl⟩ := zr hF
    exact (frpR (by decide) (frrR h))
theorem fr_X8_step {l0 : Int} {h : zH} {r : Int} {h' : zH} (hF : F_X8_step l0 h = some (r, h')) : FrR h h' := f_X8_step_0 hF
theorem f_X8_beginWay_0 {l0 l1 l2 l3 : Int} {h : zH} {r : Int} {h' : zH} (hF : F_X8_beginWay_0 l0 l1 l2 l3 h = some (r, h')) : FrR h h' := by
  unfold F_X8_beginWay_0 at hF
  obtain ⟨g2, hF⟩ := zg hF
  obtain ⟨r1, h1, e1, hF⟩ := zb_some hF
  by_cases c3 : r1 = 0
  · have hF := ip c3 hF
    obtain ⟨_, rfl⟩ := zr hF
    exact ((frrR h).tr (fr_X8_step e1))
  · have hF := im c3 hF
    obtain ⟨g4, hF⟩ := zg hF
    obtain ⟨g5, hF⟩ := zg hF
    obtain ⟨_, rfl⟩ := zr hF
    exact (frpR (by decide) (frpR (by decide) (frpR (by decide) (frpR (by decide) (frpR (by decide) ((frrR h).tr (fr_X8_step e1)))))))
theorem fr_X8_beginWay {l0 l1 l2 l3 : Int} {h : zH} {r : Int} {h' : zH} (hF : F_X8_beginWay l0 l1 l2 l3 h = some (r, h')) : FrR h h' := f_X8_beginWay_0 hF
theorem f_X2_giveCause_0 {l0 l1 l2 : Int} {h : zH} {r : Int} {h' : zH} (hF : F_X2_giveCause_0 l0 l1 l2 h = some (r, h')) : FrR h h' := by
  unfold F_X2_giveCause_0 at hF
  obtain ⟨g1, hF⟩ := zg hF
  obtain ⟨r2, h2, e2, hF⟩ := zb_some hF
  by_cases c3 : r2 = 0
  · have hF := ip c3 hF
    obtain ⟨_, rfl⟩ := zr hF
    exact ((frrR h).tr (fr_X11_within e2))
  · have hF := im c3 hF
    obtain ⟨g4, hF⟩ := zg hF
    obtain ⟨g5, hF⟩ := zg hF
    by_cases c6 : gt h2 25 (gt h2 2 l0 4) l1 ≠ (-1)
    · have hF := ip c6 hF
      obtain ⟨_, rfl⟩ := zr hF
      exact ((frrR h).tr (fr_X11_within e2))
    · have hF := im c6 hF
      obtain ⟨_, rfl⟩ := zr hF
      exact (frpR (by decide) ((frrR h).tr (fr_X11_within e2)))
theorem fr_X2_giveCause {l0 l1 l2 : Int} {h : zH} {r : Int} {h' : zH} (hF : F_X2_giveCause l0 l1 l2 h = some (r, h')) : FrR h h' := f_X2_giveCause_0 hF
theorem f_X10_wayOut_8b {ag8 : Int → Int → Int → zH → zO} (hag8 : ∀ (l0 l2 l3 : Int) (h : zH) (r : Int) (h' : zH), ag8 l0 l2 l3 h = some (r, h') → FrR h h') {l0 l2 l3 : Int} {h : zH} {r : Int} {h' : zH} (hF : F_X10_wayOut_8b ag8 l0 l2 l3 h = some (r, h')) : FrR h h' := by
  unfold F_X10_wayOut_8b at hF
  by_cases c1 : 40 ≤ l3
  · have hF := ip c1 hF
    obtain ⟨_, rfl⟩ := zr hF
    exact (frrR h)
  · have hF := im c1 hF
    obtain ⟨g3, hF⟩ := zg hF
    obtain ⟨r2, h2, e2, hF⟩ := zb_some hF
    by_cases c4 : r2 ≠ 14
    · have hF := ip c4 hF
      obtain ⟨_, rfl⟩ := zr hF
      exact ((frrR h).tr (fr_X10_opAt e2))
    · have hF := im c4 hF
      obtain ⟨r5, h5, e5, hF⟩ := zb_some hF
      exact (((frrR h).tr (fr_X10_opAt e2)).tr (fr_X10_nextOf e5)).tr (hag8 _ _ _ _ _ _ hF)
theorem f_X10_wayOut_8 : ∀ (n : Nat) (l0 l2 l3 : Int) (h : zH) (r : Int) (h' : zH), F_X10_wayOut_8 n l0 l2 l3 h = some (r, h') → FrR h h'
  | 0, _, _, _, _, _, _, hF => by cases hF
  | n + 1, _, _, _, _, _, _, hF => f_X10_wayOut_8b (f_X10_wayOut_8 n) hF
theorem f_X10_wayOut_0 {l0 l1 : Int} {h : zH} {r : Int} {h' : zH} (hF : F_X10_wayOut_0 l0 l1 h = some (r, h')) : FrR h h' := by
  unfold F_X10_wayOut_0 at hF
  obtain ⟨g2, hF⟩ := zg hF
  obtain ⟨r1, h1, e1, hF⟩ := zb_some hF
  exact ((frrR h).tr (fr_X10_nextOf e1)).tr (f_X10_wayOut_8 _ _ _ _ _ _ _ hF)
theorem fr_X10_wayOut {l0 l1 : Int} {h : zH} {r : Int} {h' : zH} (hF : F_X10_wayOut l0 l1 h = some (r, h')) : FrR h h' := f_X10_wayOut_0 hF
theorem f_X8_leaveWay_0 {l0 l1 l2 : Int} {h : zH} {r : Int} {h' : zH} (hF : F_X8_leaveWay_0 l0 l1 l2 h = some (r, h')) : FrR h h' := by
  unfold F_X8_leaveWay_0 at hF
  obtain ⟨g1, hF⟩ := zg hF
  obtain ⟨g2, hF⟩ := zg hF
  obtain ⟨g4, hF⟩ := zg hF
  obtain ⟨r3, h3, e3, hF⟩ := zb_some hF
  obtain ⟨g6, hF⟩ := zg hF
  obtain ⟨r5, h5, e5, hF⟩ := zb_some hF
  by_cases c7 : r5 = 15
  · have hF := ip c7 hF
    obtain ⟨g9, hF⟩ := zg hF
    obtain ⟨r8, h8, e8, hF⟩ := zb_some hF
    by_cases c10 : r8 = 0
    · have hF := ip c10 hF
      obtain ⟨_, rfl⟩ := zr hF
      exact ((((frrR h).tr (fr_X10_wayOut e3)).tr (fr_X10_opAt e5)).tr (fr_X8_step e8))
    · have hF := im c10 hF
      have hF := zl_e hF
      have fk11 : FrR h (pt (pt (pt h8 0 l2 3 2) 0 l2 5 (gt (pt h8 0 l2 3 2) 8 l0 12)) 0 l2 6 (gt (pt (pt h8 0 l2 3 2) 0 l2 5 (gt (pt h8 0 l2 3 2) 8 l0 12)) 8 l0 13)) := (frpR (by decide) (frpR (by decide) (frpR (by decide) ((((frrR h).tr (fr_X10_wayOut e3)).tr (fr_X10_opAt e5)).tr (fr_X8_step e8)))))
      generalize pt (pt (pt h8 0 l2 3 2) 0 l2 5 (gt (pt h8 0 l2 3 2) 8 l0 12)) 0 l2 6 (gt (pt (pt h8 0 l2 3 2) 0 l2 5 (gt (pt h8 0 l2 3 2) 8 l0 12)) 8 l0 13) = k11 at hF fk11
      obtain ⟨_, rfl⟩ := zr hF
      exact (frpR (by decide) (frpR (by decide) (frpR (by decide) fk11)))
  · have hF := im c7 hF
    obtain ⟨g13, hF⟩ := zg hF
    obtain ⟨r12, h12, e12, hF⟩ := zb_some hF
    by_cases c14 : gt h12 8 l0 12 ≠ 0
    · have hF := ip c14 hF
      obtain ⟨_, rfl⟩ := zr hF
      exact ((((frrR h).tr (fr_X10_wayOut e3)).tr (fr_X10_opAt e5)).tr (fr_X8_pop e12))
    · have hF := im c14 hF
      obtain ⟨_, rfl⟩ := zr hF
      exact (frpR (by decide) ((((frrR h).tr (fr_X10_wayOut e3)).tr (fr_X10_opAt e5)).tr (fr_X8_pop e12)))
theorem fr_X8_leaveWay {l0 l1 l2 : Int} {h : zH} {r : Int} {h' : zH} (hF : F_X8_leaveWay l0 l1 l2 h = some (r, h')) : FrR h h' := f_X8_leaveWay_0 hF
theorem f_X8_leaveTry_96 {l0 l1 l2 : Int} {h : zH} {r : Int} {h' : zH} (hF : F_X8_leaveTry_96 l0 l1 l2 h = some (r, h')) : FrR h h' := by
  unfold F_X8_leaveTry_96 at hF
  obtain ⟨g2, hF⟩ := zg hF
  obtain ⟨r1, h1, e1, hF⟩ := zb_some hF
  obtain ⟨_, rfl⟩ := zr hF
  exact ((frrR h).tr (fr_X8_leaveWay e1))
theorem f_X8_leaveTry_65 {l0 l1 l2 : Int} {h : zH} {r : Int} {h' : zH} (hF : F_X8_leaveTry_65 l0 l1 l2 h = some (r, h')) : FrR h h' := by
  unfold F_X8_leaveTry_65 at hF
  obtain ⟨g1, hF⟩ := zg hF
  by_cases c2 : gt h 8 l0 12 ≠ 3
  · have hF := ip c2 hF
    exact (frrR h).tr (f_X8_leaveTry_96 hF)
  · have hF := im c2 hF
    obtain ⟨g3, hF⟩ := zg hF
    by_cases c4 : gt h 0 l2 3 ≠ 1
    · have hF := ip c4 hF
      exact (frrR h).tr (f_X8_leaveTry_96 hF)
    · have hF := im c4 hF
      obtain ⟨g6, hF⟩ := zg hF
      obtain ⟨r5, h5, e5, hF⟩ := zb_some hF
      exact ((frrR h).tr (fr_X2_giveCause e5)).tr (f_X8_leaveTry_96 hF)
theorem f_X8_leaveTry_0 {l0 l1 l2 : Int} {h : zH} {r : Int} {h' : zH} (hF : F_X8_leaveTry_0 l0 l1 l2 h = some (r, h')) : FrR h h' := by
  unfold F_X8_leaveTry_0 at hF
  obtain ⟨g1, hF⟩ := zg hF
  by_cases c2 : gt h 0 l2 3 ≠ 2
  · have hF := ip c2 hF
    obtain ⟨g3, hF⟩ := zg hF
    by_cases c4 : gt h 8 l0 12 ≠ 3
    · have hF := ip c4 hF
      exact (frrR h).tr (f_X8_leaveTry_65 hF)
    · have hF := im c4 hF
      by_cases c5 : gt h 0 l2 3 ≠ 0
      · have hF := ip c5 hF
        exact (frrR h).tr (f_X8_leaveTry_65 hF)
      · have hF := im c5 hF
        obtain ⟨g6, hF⟩ := zg hF
        obtain ⟨g8, hF⟩ := zg hF
        obtain ⟨r7, h7, e7, hF⟩ := zb_some hF
        obtain ⟨g10, hF⟩ := zg hF
        obtain ⟨r9, h9, e9, hF⟩ := zb_some hF
        by_cases c11 : r9 = (-1)
        · have hF := ip c11 hF
          exact (((frrR h).tr (fr_X2_kindOf e7)).tr (fr_X10_guardFor e9)).tr (f_X8_leaveTry_65 hF)
        · have hF := im c11 hF
          obtain ⟨r12, h12, e12, hF⟩ := zb_some hF
          obtain ⟨_, rfl⟩ := zr hF
          exact ((((frrR h).tr (fr_X2_kindOf e7)).tr (fr_X10_guardFor e9)).tr (fr_X8_beginWay e12))
  · have hF := im c2 hF
    obtain ⟨g14, hF⟩ := zg hF
    obtain ⟨r13, h13, e13, hF⟩ := zb_some hF
    obtain ⟨_, rfl⟩ := zr hF
    exact ((frrR h).tr (fr_X8_leaveLastWay e13))
theorem fr_X8_leaveTry {l0 l1 l2 : Int} {h : zH} {r : Int} {h' : zH} (hF : F_X8_leaveTry l0 l1 l2 h = some (r, h')) : FrR h h' := f_X8_leaveTry_0 hF
theorem f_X8_leaveAct_0 {l0 : Int} {h : zH} {r : Int} {h' : zH} (hF : F_X8_leaveAct_0 l0 h = some (r, h')) : FrR h h' := by
  unfold F_X8_leaveAct_0 at hF
  obtain ⟨g2, hF⟩ := zg hF
  obtain ⟨r1, h1, e1, hF⟩ := zb_some hF
  by_cases c3 : gt h1 8 l0 12 ≠ 4
  · have hF := ip c3 hF
    obtain ⟨r4, h4, e4, hF⟩ := zb_some hF
    by_cases c5 : gt (pt h4 8 l0 3 (wI ((gt h4 8 l0 3) - 1))) 8 l0 12 ≠ 1
    · have hF := ip c5 hF
      obtain ⟨_, rfl⟩ := zr hF
      exact (frpR (by decide) (((frrR h).tr (fr_X8_endInnermost e1)).tr (fr_X8_pop e4)))
    · have hF := im c5 hF
      obtain ⟨g6, hF⟩ := zg hF
      obtain ⟨g7, hF⟩ := zg hF
      obtain ⟨g8, hF⟩ := zg hF
      have hF := zl_e hF
      have fk9 : FrR h (pt (pt (pt h4 8 l0 3 (wI ((gt h4 8 l0 3) - 1))) 8 l0 12 0) 1 (gt (pt (pt h4 8 l0 3 (wI ((gt h4 8 l0 3) - 1))) 8 l0 12 0) 39 (gt (pt (pt h4 8 l0 3 (wI ((gt h4 8 l0 3) - 1))) 8 l0 12 0) 8 l0 2) (gt (pt (pt h4 8 l0 3 (wI ((gt h4 8 l0 3) - 1))) 8 l0 12 0) 8 l0 3)) 2 (wI ((gt (pt (pt h4 8 l0 3 (wI ((gt h4 8 l0 3) - 1))) 8 l0 12 0) 1 (gt (pt (pt h4 8 l0 3 (wI ((gt h4 8 l0 3) - 1))) 8 l0 12 0) 39 (gt (pt (pt h4 8 l0 3 (wI ((gt h4 8 l0 3) - 1))) 8 l0 12 0) 8 l0 2) (gt (pt (pt h4 8 l0 3 (wI ((gt h4 8 l0 3) - 1))) 8 l0 12 0) 8 l0 3)) 2) + 1))) := (frpR (by decide) (frpR (by decide) (frpR (by decide) (((frrR h).tr (fr_X8_endInnermost e1)).tr (fr_X8_pop e4)))))
      generalize pt (pt (pt h4 8 l0 3 (wI ((gt h4 8 l0 3) - 1))) 8 l0 12 0) 1 (gt (pt (pt h4 8 l0 3 (wI ((gt h4 8 l0 3) - 1))) 8 l0 12 0) 39 (gt (pt (pt h4 8 l0 3 (wI ((gt h4 8 l0 3) - 1))) 8 l0 12 0) 8 l0 2) (gt (pt (pt h4 8 l0 3 (wI ((gt h4 8 l0 3) - 1))) 8 l0 12 0) 8 l0 3)) 2 (wI ((gt (pt (pt h4 8 l0 3 (wI ((gt h4 8 l0 3) - 1))) 8 l0 12 0) 1 (gt (pt (pt h4 8 l0 3 (wI ((gt h4 8 l0 3) - 1))) 8 l0 12 0) 39 (gt (pt (pt h4 8 l0 3 (wI ((gt h4 8 l0 3) - 1))) 8 l0 12 0) 8 l0 2) (gt (pt (pt h4 8 l0 3 (wI ((gt h4 8 l0 3) - 1))) 8 l0 12 0) 8 l0 3)) 2) + 1)) = k9 at hF fk9
      obtain ⟨_, rfl⟩ := zr hF
      exact fk9
  · have hF := im c3 hF
    obtain ⟨_, rfl⟩ := zr hF
    exact ((frrR h).tr (fr_X8_endInnermost e1))
theorem fr_X8_leaveAct {l0 : Int} {h : zH} {r : Int} {h' : zH} (hF : F_X8_leaveAct l0 h = some (r, h')) : FrR h h' := f_X8_leaveAct_0 hF
theorem f_X8_leave_0 {l0 l1 : Int} {h : zH} {r : Int} {h' : zH} (hF : F_X8_leave_0 l0 l1 h = some (r, h')) : FrR h h' := by
  unfold F_X8_leave_0 at hF
  obtain ⟨g1, hF⟩ := zg hF
  obtain ⟨g2, hF⟩ := zg hF
  obtain ⟨g3, hF⟩ := zg hF
  obtain ⟨g4, hF⟩ := zg hF
  by_cases c5 : gt h 0 (gt h 40 (gt h 8 l0 4) (gt h 8 l0 5)) 0 = 11
  · have hF := ip c5 hF
    obtain ⟨r7, h7, e7, hF⟩ := zb_some hF
    obtain ⟨_, rfl⟩ := zr hF
    exact ((frrR h).tr (fr_X8_leaveLoop e7))
  · have hF := im c5 hF
    by_cases c8 : gt h 0 (gt h 40 (gt h 8 l0 4) (gt h 8 l0 5)) 0 = 12
    · have hF := ip c8 hF
      obtain ⟨r10, h10, e10, hF⟩ := zb_some hF
      obtain ⟨_, rfl⟩ := zr hF
      exact ((frrR h).tr (fr_X8_endScopeBlock e10))
    · have hF := im c8 hF
      by_cases c11 : gt h 0 (gt h 40 (gt h 8 l0 4) (gt h 8 l0 5)) 0 = 13
      · have hF := ip c11 hF
        obtain ⟨r13, h13, e13, hF⟩ := zb_some hF
        obtain ⟨_, rfl⟩ := zr hF
        exact ((frrR h).tr (fr_X8_leaveTry e13))
      · have hF := im c11 hF
        obtain ⟨r14, h14, e14, hF⟩ := zb_some hF
        obtain ⟨_, rfl⟩ := zr hF
        exact ((frrR h).tr (fr_X8_leaveAct e14))
theorem fr_X8_leave {l0 l1 : Int} {h : zH} {r : Int} {h' : zH} (hF : F_X8_leave l0 l1 h = some (r, h')) : FrR h h' := f_X8_leave_0 hF
theorem f_X8_endTurn_0 {l0 l1 l2 : Int} {h : zH} {r : Int} {h' : zH} (hF : F_X8_endTurn_0 l0 l1 l2 h = some (r, h')) : FrR h h' := by
  unfold F_X8_endTurn_0 at hF
  obtain ⟨g1, hF⟩ := zg hF
  by_cases c2 : 0 < gt h 0 l2 2
  · have hF := ip c2 hF
    obtain ⟨g4, hF⟩ := zg hF
    obtain ⟨r3, h3, e3, hF⟩ := zb_some hF
    by_cases c5 : r3 = 0
    · have hF := ip c5 hF
      obtain ⟨_, rfl⟩ := zr hF
      exact ((frrR h).tr (fr_X8_step e3))
    · have hF := im c5 hF
      obtain ⟨g6, hF⟩ := zg hF
      obtain ⟨_, rfl⟩ := zr hF
      exact (frpR (by decide) (frpR (by decide) ((frrR h).tr (fr_X8_step e3))))
  · have hF := im c2 hF
    obtain ⟨g8, hF⟩ := zg hF
    obtain ⟨r7, h7, e7, hF⟩ := zb_some hF
    obtain ⟨g9, hF⟩ := zg hF
    obtain ⟨_, rfl⟩ := zr hF
    exact (frpR (by decide) ((frrR h).tr (fr_X8_pop e7)))
theorem fr_X8_endTurn {l0 l1 l2 : Int} {h : zH} {r : Int} {h' : zH} (hF : F_X8_endTurn l0 l1 l2 h = some (r, h')) : FrR h h' := f_X8_endTurn_0 hF
theorem f_X8_endLastWay_0 {l0 l1 l2 : Int} {h : zH} {r : Int} {h' : zH} (hF : F_X8_endLastWay_0 l0 l1 l2 h = some (r, h')) : FrR h h' := by
  unfold F_X8_endLastWay_0 at hF
  obtain ⟨g1, hF⟩ := zg hF
  obtain ⟨g2, hF⟩ := zg hF
  obtain ⟨r3, h3, e3, hF⟩ := zb_some hF
  obtain ⟨g4, hF⟩ := zg hF
  obtain ⟨_, rfl⟩ := zr hF
  exact (frpR (by decide) ((frpR (by decide) (frpR (by decide) (frrR h))).tr (fr_X8_pop e3)))
theorem fr_X8_endLastWay {l0 l1 l2 : Int} {h : zH} {r : Int} {h' : zH} (hF : F_X8_endLastWay l0 l1 l2 h = some (r, h')) : FrR h h' := f_X8_endLastWay_0 hF
theorem f_X8_reachMark_0 {l0 l1 : Int} {h : zH} {r : Int} {h' : zH} (hF : F_X8_reachMark_0 l0 l1 h = some (r, h')) : FrR h h' := by
  unfold F_X8_reachMark_0 at hF
  obtain ⟨g1, hF⟩ := zg hF
  obtain ⟨g2, hF⟩ := zg hF
  obtain ⟨g3, hF⟩ := zg hF
  obtain ⟨g4, hF⟩ := zg hF
  by_cases c5 : gt h 0 (gt h 40 (gt h 8 l0 4) (gt h 8 l0 5)) 0 = 11
  · have hF := ip c5 hF
    obtain ⟨r7, h7, e7, hF⟩ := zb_some hF
    obtain ⟨_, rfl⟩ := zr hF
    exact ((frrR h).tr (fr_X8_endTurn e7))
  · have hF := im c5 hF
    by_cases c8 : gt h 0 (gt h 40 (gt h 8 l0 4) (gt h 8 l0 5)) 0 = 12
    · have hF := ip c8 hF
      obtain ⟨r10, h10, e10, hF⟩ := zb_some hF
      obtain ⟨_, rfl⟩ := zr hF
      exact ((frrR h).tr (fr_X8_endScopeBlock e10))
    · have hF := im c8 hF
      by_cases c11 : gt h 0 (gt h 40 (gt h 8 l0 4) (gt h 8 l0 5)) 0 = 13
      · have hF := ip c11 hF
        by_cases c15 : gt h 0 (gt h 40 (gt h 8 l0 4) (gt h 8 l0 5)) 3 ≠ 2
        · have hF := ip c15 hF
          obtain ⟨r16, h16, e16, hF⟩ := zb_some hF
          obtain ⟨_, rfl⟩ := zr hF
          exact ((frrR h).tr (fr_X8_leaveWay e16))
        · have hF := im c15 hF
          obtain ⟨r17, h17, e17, hF⟩ := zb_some hF
          obtain ⟨_, rfl⟩ := zr hF
          exact ((frrR h).tr (fr_X8_endLastWay e17))
      · have hF := im c11 hF
        obtain ⟨_, rfl⟩ := zr hF
        exact (frpR (by decide) (frrR h))
theorem fr_X8_reachMark {l0 l1 : Int} {h : zH} {r : Int} {h' : zH} (hF : F_X8_reachMark l0 l1 h = some (r, h')) : FrR h h' := f_X8_reachMark_0 hF
theorem f_X10_bAt_0 {l0 l1 : Int} {h : zH} {r : Int} {h' : zH} (hF : F_X10_bAt_0 l0 l1 h = some (r, h')) : FrR h h' := by
  unfold F_X10_bAt_0 at hF
  obtain ⟨g1, hF⟩ := zg hF
  obtain ⟨r2, h2, e2, hF⟩ := zb_some hF
  by_cases c3 : r2 = 0
  · have hF := ip c3 hF
    obtain ⟨_, rfl⟩ := zr hF
    exact ((frrR h).tr (fr_X11_within e2))
  · have hF := im c3 hF
    obtain ⟨g4, hF⟩ := zg hF
    obtain ⟨g5, hF⟩ := zg hF
    obtain ⟨_, rfl⟩ := zr hF
    exact ((frrR h).tr (fr_X11_within e2))
theorem fr_X10_bAt {l0 l1 : Int} {h : zH} {r : Int} {h' : zH} (hF : F_X10_bAt l0 l1 h = some (r, h')) : FrR h h' := f_X10_bAt_0 hF
theorem f_X8_fail_0 {l0 l1 l2 l3 : Int} {h : zH} {r : Int} {h' : zH} (hF : F_X8_fail_0 l0 l1 l2 l3 h = some (r, h')) : FrR h h' := by
  unfold F_X8_fail_0 at hF
  obtain ⟨g1, hF⟩ := zg hF
  obtain ⟨g2, hF⟩ := zg hF
  obtain ⟨g4, hF⟩ := zg hF
  obtain ⟨r3, h3, e3, hF⟩ := zb_some hF
  by_cases c5 : r3 ≠ (-1)
  · have hF := ip c5 hF
    obtain ⟨_, rfl⟩ := zr hF
    exact (frpR (by decide) (frpR (by decide) ((frrR h).tr (fr_X2_add e3))))
  · have hF := im c5 hF
    obtain ⟨_, rfl⟩ := zr hF
    exact (frpR (by decide) (frpR (by decide) ((frrR h).tr (fr_X2_add e3))))
theorem fr_X8_fail {l0 l1 l2 l3 : Int} {h : zH} {r : Int} {h' : zH} (hF : F_X8_fail l0 l1 l2 l3 h = some (r, h')) : FrR h h' := f_X8_fail_0 hF
theorem f_X3_giveOut_0 {l0 l1 l2 l3 : Int} {h : zH} {r : Int} {h' : zH} (hF : F_X3_giveOut_0 l0 l1 l2 l3 h = some (r, h')) : FrR h h' := by
  unfold F_X3_giveOut_0 at hF
  obtain ⟨g1, hF⟩ := zg hF
  by_cases c2 : l3 = 0
  · have hF := ip c2 hF
    obtain ⟨_, rfl⟩ := zr hF
    exact (frpR (by decide) (frpR (by decide) (frpR (by decide) (frrR h))))
  · have hF := im c2 hF
    obtain ⟨g3, hF⟩ := zg hF
    obtain ⟨r4, h4, e4, hF⟩ := zb_some hF
    by_cases c5 : r4 = 0
    · have hF := ip c5 hF
      obtain ⟨_, rfl⟩ := zr hF
      exact ((frpR (by decide) (frpR (by decide) (frpR (by decide) (frrR h)))).tr (fr_X11_within e4))
    · have hF := im c5 hF
      obtain ⟨g6, hF⟩ := zg hF
      obtain ⟨g7, hF⟩ := zg hF
      have hF := zl_e hF
      have fk8 : FrR h (pt (pt h4 29 (gt h4 3 l0 4) (gt h4 3 l0 5) (gt h4 6 l1 0)) 3 l0 5 (wI ((gt (pt h4 29 (gt h4 3 l0 4) (gt h4 3 l0 5) (gt h4 6 l1 0)) 3 l0 5) + 1))) := (frpR (by decide) (frpR (by decide) ((frpR (by decide) (frpR (by decide) (frpR (by decide) (frrR h)))).tr (fr_X11_within e4))))
      generalize pt (pt h4 29 (gt h4 3 l0 4) (gt h4 3 l0 5) (gt h4 6 l1 0)) 3 l0 5 (wI ((gt (pt h4 29 (gt h4 3 l0 4) (gt h4 3 l0 5) (gt h4 6 l1 0)) 3 l0 5) + 1)) = k8 at hF fk8
      obtain ⟨_, rfl⟩ := zr hF
      exact fk8
theorem fr_X3_giveOut {l0 l1 l2 l3 : Int} {h : zH} {r : Int} {h' : zH} (hF : F_X3_giveOut l0 l1 l2 l3 h = some (r, h')) : FrR h h' := f_X3_giveOut_0 hF
theorem f_X4_begin_0 {l0 l1 l2 l3 : Int} {h : zH} {r : Int} {h' : zH} (hF : F_X4_begin_0 l0 l1 l2 l3 h = some (r, h')) : FrR h h' := by
  unfold F_X4_begin_0 at hF
  obtain ⟨g1, hF⟩ := zg hF
  have hF := zl_e hF
  have fk2 : FrR h (pt (pt (pt (pt (pt (pt (pt (pt h 4 l0 0 l1) 4 l0 1 l2) 4 l0 2 1) 4 l0 3 l3) 4 l0 4 (-1)) 4 l0 5 (-1)) 4 l0 6 (-1)) 4 l0 7 (-1)) := (frpR (by decide) (frpR (by decide) (frpR (by decide) (frpR (by decide) (frpR (by decide) (frpR (by decide) (frpR (by decide) (frpR (by decide) (frrR h)))))))))
  generalize pt (pt (pt (pt (pt (pt (pt (pt h 4 l0 0 l1) 4 l0 1 l2) 4 l0 2 1) 4 l0 3 l3) 4 l0 4 (-1)) 4 l0 5 (-1)) 4 l0 6 (-1)) 4 l0 7 (-1) = k2 at hF fk2
  by_cases c3 : l3 = -1
  · have hF := ip c3 hF
    obtain ⟨_, rfl⟩ := zr hF
    exact fk2
  · have hF := im c3 hF
    obtain ⟨g4, hF⟩ := zg hF
    obtain ⟨_, rfl⟩ := zr hF
    exact (frpR (by decide) fk2)
theorem fr_X4_begin {l0 l1 l2 l3 : Int} {h : zH} {r : Int} {h' : zH} (hF : F_X4_begin l0 l1 l2 l3 h = some (r, h')) : FrR h h' := f_X4_begin_0 hF
theorem f_X4_moveTo_32 {l0 l1 : Int} {h : zH} {r : Int} {h' : zH} (hF : F_X4_moveTo_32 l0 l1 h = some (r, h')) : FrR h h' := by
  unfold F_X4_moveTo_32 at hF
  obtain ⟨g1, hF⟩ := zg hF
  obtain ⟨_, rfl⟩ := zr hF
  exact (frpR (by decide) (frrR h))
theorem f_X4_moveTo_0 {l0 l1 : Int} {h : zH} {r : Int} {h' : zH} (hF : F_X4_moveTo_0 l0 l1 h = some (r, h')) : FrR h h' := by
  unfold F_X4_moveTo_0 at hF
  obtain ⟨g2, hF⟩ := zg hF
  obtain ⟨r1, h1, e1, hF⟩ := zb_some hF
  obtain ⟨g3, hF⟩ := zg hF
  by_cases c4 : gt (pt (pt h1 4 l0 5 l1) 4 l0 6 (gt (pt h1 4 l0 5 l1) 9 l1 2)) 9 l1 2 = -1
  · have hF := ip c4 hF
    exact (frpR (by decide) (frpR (by decide) ((frrR h).tr (fr_X4_leaveScope e1)))).tr (f_X4_moveTo_32 hF)
  · have hF := im c4 hF
    obtain ⟨g5, hF⟩ := zg hF
    exact (frpR (by decide) (frpR (by decide) (frpR (by decide) ((frrR h).tr (fr_X4_leaveScope e1))))).tr (f_X4_moveTo_32 hF)
theorem fr_X4_moveTo {l0 l1 : Int} {h : zH} {r : Int} {h' : zH} (hF : F_X4_moveTo l0 l1 h = some (r, h')) : FrR h h' := f_X4_moveTo_0 hF
theorem f_X1_put_0 {l0 l1 l2 : Int} {h : zH} {r : Int} {h' : zH} (hF : F_X1_put_0 l0 l1 l2 h = some (r, h')) : FrR h h' := by
  unfold F_X1_put_0 at hF
  obtain ⟨r1, h1, e1, hF⟩ := zb_some hF
  by_cases c2 : r1 = 0
  · have hF := ip c2 hF
    obtain ⟨_, rfl⟩ := zr hF
    exact ((frrR h).tr (fr_X11_within e1))
  · have hF := im c2 hF
    obtain ⟨g3, hF⟩ := zg hF
    obtain ⟨g4, hF⟩ := zg hF
    obtain ⟨g5, hF⟩ := zg hF
    obtain ⟨_, rfl⟩ := zr hF
    exact (frpR (by decide) ((frrR h).tr (fr_X11_within e1)))
theorem fr_X1_put {l0 l1 l2 : Int} {h : zH} {r : Int} {h' : zH} (hF : F_X1_put l0 l1 l2 h = some (r, h')) : FrR h h' := f_X1_put_0 hF
theorem f_X8_makeLoan_65 {l1 l2 l6 : Int} {h : zH} {r : Int} {h' : zH} (hF : F_X8_makeLoan_65 l1 l2 l6 h = some (r, h')) : FrR h h' := by
  unfold F_X8_makeLoan_65 at hF
  obtain ⟨g2, hF⟩ := zg hF
  obtain ⟨r1, h1, e1, hF⟩ := zb_some hF
  obtain ⟨_, rfl⟩ := zr hF
  exact ((frrR h).tr (fr_X1_put e1))
theorem f_X8_makeLoan_0 {l0 l1 l2 l3 l4 l5 : Int} {h : zH} {r : Int} {h' : zH} (hF : F_X8_makeLoan_0 l0 l1 l2 l3 l4 l5 h = some (r, h')) : FrR h h' := by
  unfold F_X8_makeLoan_0 at hF
  obtain ⟨g1, hF⟩ := zg hF
  obtain ⟨r2, h2, e2, hF⟩ := zb_some hF
  by_cases c3 : r2 ≠ 0
  · have hF := ip c3 hF
    obtain ⟨g4, hF⟩ := zg hF
    obtain ⟨g5, hF⟩ := zg hF
    obtain ⟨g7, hF⟩ := zg hF
    obtain ⟨r6, h6, e6, hF⟩ := zb_some hF
    by_cases c8 : l4 = 1
    · have hF := ip c8 hF
      exact ((frpR (by decide) ((frrR h).tr (fr_X11_within e2))).tr (fr_X4_begin e6)).tr (f_X8_makeLoan_65 hF)
    · have hF := im c8 hF
      obtain ⟨g9, hF⟩ := zg hF
      obtain ⟨g10, hF⟩ := zg hF
      obtain ⟨r11, h11, e11, hF⟩ := zb_some hF
      exact (((frpR (by decide) ((frrR h).tr (fr_X11_within e2))).tr (fr_X4_begin e6)).tr (fr_X4_moveTo e11)).tr (f_X8_makeLoan_65 hF)
  · have hF := im c3 hF
    obtain ⟨_, rfl⟩ := zr hF
    exact ((frrR h).tr (fr_X11_within e2))
theorem fr_X8_makeLoan {l0 l1 l2 l3 l4 l5 : Int} {h : zH} {r : Int} {h' : zH} (hF : F_X8_makeLoan l0 l1 l2 l3 l4 l5 h = some (r, h')) : FrR h h' := f_X8_makeLoan_0 hF
theorem f_X6_addToTrace_0 {l0 l1 l2 : Int} {h : zH} {r : Int} {h' : zH} (hF : F_X6_addToTrace_0 l0 l1 l2 h = some (r, h')) : FrR h h' := by
  unfold F_X6_addToTrace_0 at hF
  obtain ⟨g1, hF⟩ := zg hF
  obtain ⟨r2, h2, e2, hF⟩ := zb_some hF
  by_cases c3 : r2 = 0
  · have hF := ip c3 hF
    obtain ⟨_, rfl⟩ := zr hF
    exact ((frrR h).tr (fr_X11_within e2))
  · have hF := im c3 hF
    obtain ⟨g4, hF⟩ := zg hF
    obtain ⟨g5, hF⟩ := zg hF
    obtain ⟨g6, hF⟩ := zg hF
    obtain ⟨g7, hF⟩ := zg hF
    have hF := zl_e hF
    have fk8 : FrR h (pt (pt h2 34 (gt h2 6 l0 5) (gt h2 6 l0 7) l1) 35 (gt (pt h2 34 (gt h2 6 l0 5) (gt h2 6 l0 7) l1) 6 l0 6) (gt (pt h2 34 (gt h2 6 l0 5) (gt h2 6 l0 7) l1) 6 l0 7) l2) := (frpR (by decide) (frpR (by decide) ((frrR h).tr (fr_X11_within e2))))
    generalize pt (pt h2 34 (gt h2 6 l0 5) (gt h2 6 l0 7) l1) 35 (gt (pt h2 34 (gt h2 6 l0 5) (gt h2 6 l0 7) l1) 6 l0 6) (gt (pt h2 34 (gt h2 6 l0 5) (gt h2 6 l0 7) l1) 6 l0 7) l2 = k8 at hF fk8
    obtain ⟨_, rfl⟩ := zr hF
    exact (frpR (by decide) fk8)
theorem fr_X6_addToTrace {l0 l1 l2 : Int} {h : zH} {r : Int} {h' : zH} (hF : F_X6_addToTrace l0 l1 l2 h = some (r, h')) : FrR h h' := f_X6_addToTrace_0 hF
theorem f_X8_hire_42b {ag42 : Int → Int → Int → zH → zO} (hag42 : ∀ (l0 l3 l5 : Int) (h : zH) (r : Int) (h' : zH), ag42 l0 l3 l5 h = some (r, h') → FrR h h') {l0 l3 l5 : Int} {h : zH} {r : Int} {h' : zH} (hF : F_X8_hire_42b ag42 l0 l3 l5 h = some (r, h')) : FrR h h' := by
  unfold F_X8_hire_42b at hF
  obtain ⟨g1, hF⟩ := zg hF
  by_cases c2 : gt h 8 l0 3 < l5
  · have hF := ip c2 hF
    obtain ⟨_, rfl⟩ := zr hF
    exact (frrR h)
  · have hF := im c2 hF
    by_cases c3 : 10 < l5
    · have hF := ip c3 hF
      obtain ⟨_, rfl⟩ := zr hF
      exact (frrR h)
    · have hF := im c3 hF
      obtain ⟨g4, hF⟩ := zg hF
      obtain ⟨g5, hF⟩ := zg hF
      obtain ⟨g6, hF⟩ := zg hF
      obtain ⟨g8, hF⟩ := zg hF
      obtain ⟨r7, h7, e7, hF⟩ := zb_some hF
      exact ((frrR h).tr (fr_X6_addToTrace e7)).tr (hag42 _ _ _ _ _ _ hF)
theorem f_X8_hire_42 : ∀ (n : Nat) (l0 l3 l5 : Int) (h : zH) (r : Int) (h' : zH), F_X8_hire_42 n l0 l3 l5 h = some (r, h') → FrR h h'
  | 0, _, _, _, _, _, _, hF => by cases hF
  | n + 1, _, _, _, _, _, _, hF => f_X8_hire_42b (f_X8_hire_42 n) hF
theorem f_X8_hire_0 {l0 l1 l2 l3 l4 : Int} {h : zH} {r : Int} {h' : zH} (hF : F_X8_hire_0 l0 l1 l2 l3 l4 h = some (r, h')) : FrR h h' := by
  unfold F_X8_hire_0 at hF
  obtain ⟨g1, hF⟩ := zg hF
  by_cases c2 : l4 ≠ 1
  · have hF := ip c2 hF
    obtain ⟨g4, hF⟩ := zg hF
    obtain ⟨r3, h3, e3, hF⟩ := zb_some hF
    obtain ⟨r5, h5, e5, hF⟩ := zb_some hF
    by_cases c6 : l4 ≠ 1
    · have hF := ip c6 hF
      obtain ⟨_, rfl⟩ := zr hF
      exact (((frrR h).tr (fr_X3_giveOut e3)).tr (fr_X8_makeLoan e5))
    · have hF := im c6 hF
      exact (((frrR h).tr (fr_X3_giveOut e3)).tr (fr_X8_makeLoan e5)).tr (f_X8_hire_42 _ _ _ _ _ _ _ hF)
  · have hF := im c2 hF
    obtain ⟨g8, hF⟩ := zg hF
    obtain ⟨r7, h7, e7, hF⟩ := zb_some hF
    obtain ⟨r9, h9, e9, hF⟩ := zb_some hF
    by_cases c10 : l4 ≠ 1
    · have hF := ip c10 hF
      obtain ⟨_, rfl⟩ := zr hF
      exact (((frrR h).tr (fr_X3_giveOut e7)).tr (fr_X8_makeLoan e9))
    · have hF := im c10 hF
      exact (((frrR h).tr (fr_X3_giveOut e7)).tr (fr_X8_makeLoan e9)).tr (f_X8_hire_42 _ _ _ _ _ _ _ hF)
theorem fr_X8_hire {l0 l1 l2 l3 l4 : Int} {h : zH} {r : Int} {h' : zH} (hF : F_X8_hire l0 l1 l2 l3 l4 h = some (r, h')) : FrR h h' := f_X8_hire_0 hF
theorem f_X8_borrow_23 {l0 l1 l3 : Int} {h : zH} {r : Int} {h' : zH} (hF : F_X8_borrow_23 l0 l1 l3 h = some (r, h')) : FrR h h' := by
  unfold F_X8_borrow_23 at hF
  obtain ⟨g2, hF⟩ := zg hF
  obtain ⟨r1, h1, e1, hF⟩ := zb_some hF
  obtain ⟨_, rfl⟩ := zr hF
  exact ((frrR h).tr (fr_X8_fail e1))
theorem f_X8_borrow_0 {l0 l1 l2 l3 l4 : Int} {h : zH} {r : Int} {h' : zH} (hF : F_X8_borrow_0 l0 l1 l2 l3 l4 h = some (r, h')) : FrR h h' := by
  unfold F_X8_borrow_0 at hF
  obtain ⟨g1, hF⟩ := zg hF
  obtain ⟨g3, hF⟩ := zg hF
  obtain ⟨r2, h2, e2, hF⟩ := zb_some hF
  by_cases c4 : r2 = -1
  · have hF := ip c4 hF
    exact ((frrR h).tr (fr_X3_find e2)).tr (f_X8_borrow_23 hF)
  · have hF := im c4 hF
    obtain ⟨g5, hF⟩ := zg hF
    by_cases c6 : gt h2 6 r2 3 = 0
    · have hF := ip c6 hF
      obtain ⟨r7, h7, e7, hF⟩ := zb_some hF
      obtain ⟨_, rfl⟩ := zr hF
      exact (((frrR h).tr (fr_X3_find e2)).tr (fr_X8_hire e7))
    · have hF := im c6 hF
      exact ((frrR h).tr (fr_X3_find e2)).tr (f_X8_borrow_23 hF)
theorem fr_X8_borrow {l0 l1 l2 l3 l4 : Int} {h : zH} {r : Int} {h' : zH} (hF : F_X8_borrow l0 l1 l2 l3 l4 h = some (r, h')) : FrR h h' := f_X8_borrow_0 hF
theorem f_X3_firstOnRack_2b {ag2 : Int → Int → Int → zH → zO} (hag2 : ∀ (l0 l1 l2 : Int) (h : zH) (r : Int) (h' : zH), ag2 l0 l1 l2 h = some (r, h') → FrR h h') {l0 l1 l2 : Int} {h : zH} {r : Int} {h' : zH} (hF : F_X3_firstOnRack_2b ag2 l0 l1 l2 h = some (r, h')) : FrR h h' := by
  unfold F_X3_firstOnRack_2b at hF
  obtain ⟨g1, hF⟩ := zg hF
  by_cases c2 : gt h 3 l0 1 ≤ l2
  · have hF := ip c2 hF
    obtain ⟨_, rfl⟩ := zr hF
    exact (frrR h)
  · have hF := im c2 hF
    obtain ⟨g3, hF⟩ := zg hF
    obtain ⟨g4, hF⟩ := zg hF
    by_cases c5 : gt h 27 (gt h 3 l0 0) l2 = -1
    · have hF := ip c5 hF
      exact (frrR h).tr (hag2 _ _ _ _ _ _ hF)
    · have hF := im c5 hF
      obtain ⟨g6, hF⟩ := zg hF
      by_cases c7 : gt h 6 (gt h 27 (gt h 3 l0 0) l2) 1 ≠ l1
      · have hF := ip c7 hF
        exact (frrR h).tr (hag2 _ _ _ _ _ _ hF)
      · have hF := im c7 hF
        by_cases c8 : gt h 6 (gt h 27 (gt h 3 l0 0) l2) 3 ≠ 0
        · have hF := ip c8 hF
          exact (frrR h).tr (hag2 _ _ _ _ _ _ hF)
        · have hF := im c8 hF
          obtain ⟨_, rfl⟩ := zr hF
          exact (frrR h)
theorem f_X3_firstOnRack_2 : ∀ (n : Nat) (l0 l1 l2 : Int) (h : zH) (r : Int) (h' : zH), F_X3_firstOnRack_2 n l0 l1 l2 h = some (r, h') → FrR h h'
  | 0, _, _, _, _, _, _, hF => by cases hF
  | n + 1, _, _, _, _, _, _, hF => f_X3_firstOnRack_2b (f_X3_firstOnRack_2 n) hF
theorem f_X3_firstOnRack_0 {l0 l1 : Int} {h : zH} {r : Int} {h' : zH} (hF : F_X3_firstOnRack_0 l0 l1 h = some (r, h')) : FrR h h' := by
  unfold F_X3_firstOnRack_0 at hF
  exact (frrR h).tr (f_X3_firstOnRack_2 _ _ _ _ _ _ _ hF)
theorem fr_X3_firstOnRack {l0 l1 : Int} {h : zH} {r : Int} {h' : zH} (hF : F_X3_firstOnRack l0 l1 h = some (r, h')) : FrR h h' := f_X3_firstOnRack_0 hF
theorem f_X8_take_0 {l0 l1 l2 l3 : Int} {h : zH} {r : Int} {h' : zH} (hF : F_X8_take_0 l0 l1 l2 l3 h = some (r, h')) : FrR h h' := by
  unfold F_X8_take_0 at hF
  obtain ⟨g1, hF⟩ := zg hF
  obtain ⟨g3, hF⟩ := zg hF
  obtain ⟨r2, h2, e2, hF⟩ := zb_some hF
  by_cases c4 : r2 ≠ -1
  · have hF := ip c4 hF
    obtain ⟨r5, h5, e5, hF⟩ := zb_some hF
    obtain ⟨_, rfl⟩ := zr hF
    exact (((frrR h).tr (fr_X3_firstOnRack e2)).tr (fr_X8_hire e5))
  · have hF := im c4 hF
    obtain ⟨r6, h6, e6, hF⟩ := zb_some hF
    obtain ⟨_, rfl⟩ := zr hF
    exact (((frrR h).tr (fr_X3_firstOnRack e2)).tr (fr_X8_fail e6))
theorem fr_X8_take {l0 l1 l2 l3 : Int} {h : zH} {r : Int} {h' : zH} (hF : F_X8_take l0 l1 l2 l3 h = some (r, h')) : FrR h h' := f_X8_take_0 hF
theorem f_X1_in_0 {l0 l1 : Int} {h : zH} {r : Int} {h' : zH} (hF : F_X1_in_0 l0 l1 h = some (r, h')) : FrR h h' := by
  unfold F_X1_in_0 at hF
  obtain ⟨r1, h1, e1, hF⟩ := zb_some hF
  by_cases c2 : r1 = 0
  · have hF := ip c2 hF
    obtain ⟨_, rfl⟩ := zr hF
    exact ((frrR h).tr (fr_X11_within e1))
  · have hF := im c2 hF
    obtain ⟨g3, hF⟩ := zg hF
    obtain ⟨g4, hF⟩ := zg hF
    obtain ⟨g5, hF⟩ := zg hF
    obtain ⟨_, rfl⟩ := zr hF
    exact ((frrR h).tr (fr_X11_within e1))
theorem fr_X1_in {l0 l1 : Int} {h : zH} {r : Int} {h' : zH} (hF : F_X1_in l0 l1 h = some (r, h')) : FrR h h' := f_X1_in_0 hF
theorem f_X8_misuseOf_0 {l0 l1 : Int} {h : zH} {r : Int} {h' : zH} (hF : F_X8_misuseOf_0 l0 l1 h = some (r, h')) : FrR h h' := by
  unfold F_X8_misuseOf_0 at hF
  by_cases c1 : l0 = -1
  · have hF := ip c1 hF
    obtain ⟨_, rfl⟩ := zr hF
    exact (frrR h)
  · have hF := im c1 hF
    obtain ⟨g2, hF⟩ := zg hF
    by_cases c3 : gt h 4 l0 2 ≠ 0
    · have hF := ip c3 hF
      by_cases c4 : l1 = 0
      · have hF := ip c4 hF
        obtain ⟨_, rfl⟩ := zr hF
        exact (frrR h)
      · have hF := im c4 hF
        by_cases c5 : gt h 4 l0 4 = -1
        · have hF := ip c5 hF
          obtain ⟨_, rfl⟩ := zr hF
          exact (frrR h)
        · have hF := im c5 hF
          obtain ⟨_, rfl⟩ := zr hF
          exact (frrR h)
    · have hF := im c3 hF
      obtain ⟨_, rfl⟩ := zr hF
      exact (frrR h)
theorem fr_X8_misuseOf {l0 l1 : Int} {h : zH} {r : Int} {h' : zH} (hF : F_X8_misuseOf l0 l1 h = some (r, h')) : FrR h h' := f_X8_misuseOf_0 hF
theorem f_X8_use_0 {l0 l1 l2 : Int} {h : zH} {r : Int} {h' : zH} (hF : F_X8_use_0 l0 l1 l2 h = some (r, h')) : FrR h h' := by
  unfold F_X8_use_0 at hF
  obtain ⟨r1, h1, e1, hF⟩ := zb_some hF
  by_cases c2 : r1 = (-1)
  · have hF := ip c2 hF
    obtain ⟨g3, hF⟩ := zg hF
    obtain ⟨g4, hF⟩ := zg hF
    obtain ⟨r5, h5, e5, hF⟩ := zb_some hF
    obtain ⟨g7, hF⟩ := zg hF
    obtain ⟨r6, h6, e6, hF⟩ := zb_some hF
    by_cases c8 : r6 = 0
    · have hF := ip c8 hF
      obtain ⟨_, rfl⟩ := zr hF
      exact ((((frrR h).tr (fr_X8_misuseOf e1)).tr (fr_X8_partOf e5)).tr (fr_X7_meets e6))
    · have hF := im c8 hF
      obtain ⟨r9, h9, e9, hF⟩ := zb_some hF
      obtain ⟨r10, h10, e10, hF⟩ := zb_some hF
      obtain ⟨_, rfl⟩ := zr hF
      exact ((((((frrR h).tr (fr_X8_misuseOf e1)).tr (fr_X8_partOf e5)).tr (fr_X7_meets e6)).tr (fr_X8_partOf e9)).tr (fr_X8_fail e10))
  · have hF := im c2 hF
    obtain ⟨r11, h11, e11, hF⟩ := zb_some hF
    obtain ⟨g13, hF⟩ := zg hF
    obtain ⟨r12, h12, e12, hF⟩ := zb_some hF
    obtain ⟨_, rfl⟩ := zr hF
    exact ((((frrR h).tr (fr_X8_misuseOf e1)).tr (fr_X8_partOf e11)).tr (fr_X8_fail e12))
theorem fr_X8_use {l0 l1 l2 : Int} {h : zH} {r : Int} {h' : zH} (hF : F_X8_use l0 l1 l2 h = some (r, h')) : FrR h h' := f_X8_use_0 hF
theorem f_X8_bringBack_0 {l0 l1 l2 : Int} {h : zH} {r : Int} {h' : zH} (hF : F_X8_bringBack_0 l0 l1 l2 h = some (r, h')) : FrR h h' := by
  unfold F_X8_bringBack_0 at hF
  obtain ⟨r1, h1, e1, hF⟩ := zb_some hF
  by_cases c2 : r1 = (-1)
  · have hF := ip c2 hF
    obtain ⟨g4, hF⟩ := zg hF
    obtain ⟨r3, h3, e3, hF⟩ := zb_some hF
    by_cases c5 : r3 = 0
    · have hF := ip c5 hF
      obtain ⟨_, rfl⟩ := zr hF
      exact (((frrR h).tr (fr_X8_misuseOf e1)).tr (fr_X8_giveUp e3))
    · have hF := im c5 hF
      obtain ⟨r6, h6, e6, hF⟩ := zb_some hF
      obtain ⟨r7, h7, e7, hF⟩ := zb_some hF
      obtain ⟨_, rfl⟩ := zr hF
      exact (((((frrR h).tr (fr_X8_misuseOf e1)).tr (fr_X8_giveUp e3)).tr (fr_X8_partOf e6)).tr (fr_X8_fail e7))
  · have hF := im c2 hF
    obtain ⟨r8, h8, e8, hF⟩ := zb_some hF
    obtain ⟨g10, hF⟩ := zg hF
    obtain ⟨r9, h9, e9, hF⟩ := zb_some hF
    obtain ⟨_, rfl⟩ := zr hF
    exact ((((frrR h).tr (fr_X8_misuseOf e1)).tr (fr_X8_partOf e8)).tr (fr_X8_fail e9))
theorem fr_X8_bringBack {l0 l1 l2 : Int} {h : zH} {r : Int} {h' : zH} (hF : F_X8_bringBack l0 l1 l2 h = some (r, h')) : FrR h h' := f_X8_bringBack_0 hF
theorem f_X8_lendOn_0 {l0 l1 l2 l3 : Int} {h : zH} {r : Int} {h' : zH} (hF : F_X8_lendOn_0 l0 l1 l2 l3 h = some (r, h')) : FrR h h' := by
  unfold F_X8_lendOn_0 at hF
  obtain ⟨r1, h1, e1, hF⟩ := zb_some hF
  by_cases c2 : r1 = (-1)
  · have hF := ip c2 hF
    obtain ⟨g3, hF⟩ := zg hF
    obtain ⟨g5, hF⟩ := zg hF
    obtain ⟨r4, h4, e4, hF⟩ := zb_some hF
    obtain ⟨_, rfl⟩ := zr hF
    exact (((frrR h).tr (fr_X8_misuseOf e1)).tr (fr_X8_makeLoan e4))
  · have hF := im c2 hF
    obtain ⟨r6, h6, e6, hF⟩ := zb_some hF
    obtain ⟨g8, hF⟩ := zg hF
    obtain ⟨r7, h7, e7, hF⟩ := zb_some hF
    obtain ⟨_, rfl⟩ := zr hF
    exact ((((frrR h).tr (fr_X8_misuseOf e1)).tr (fr_X8_partOf e6)).tr (fr_X8_fail e7))
theorem fr_X8_lendOn {l0 l1 l2 l3 : Int} {h : zH} {r : Int} {h' : zH} (hF : F_X8_lendOn l0 l1 l2 l3 h = some (r, h')) : FrR h h' := f_X8_lendOn_0 hF
theorem f_X8_passOn_46 {l0 l1 l2 : Int} {h : zH} {r : Int} {h' : zH} (hF : F_X8_passOn_46 l0 l1 l2 h = some (r, h')) : FrR h h' := by
  unfold F_X8_passOn_46 at hF
  obtain ⟨r1, h1, e1, hF⟩ := zb_some hF
  obtain ⟨g3, hF⟩ := zg hF
  obtain ⟨r2, h2, e2, hF⟩ := zb_some hF
  obtain ⟨_, rfl⟩ := zr hF
  exact (((frrR h).tr (fr_X8_partOf e1)).tr (fr_X8_fail e2))
theorem f_X8_passOn_0 {l0 l1 l2 l3 : Int} {h : zH} {r : Int} {h' : zH} (hF : F_X8_passOn_0 l0 l1 l2 l3 h = some (r, h')) : FrR h h' := by
  unfold F_X8_passOn_0 at hF
  obtain ⟨r1, h1, e1, hF⟩ := zb_some hF
  by_cases c2 : r1 = (-1)
  · have hF := ip c2 hF
    obtain ⟨g3, hF⟩ := zg hF
    by_cases c4 : gt h1 4 l2 1 = 1
    · have hF := ip c4 hF
      exact ((frrR h).tr (fr_X8_misuseOf e1)).tr (f_X8_passOn_46 hF)
    · have hF := im c4 hF
      obtain ⟨g5, hF⟩ := zg hF
      obtain ⟨r6, h6, e6, hF⟩ := zb_some hF
      by_cases c7 : r6 ≠ 0
      · have hF := ip c7 hF
        obtain ⟨g8, hF⟩ := zg hF
        obtain ⟨g9, hF⟩ := zg hF
        obtain ⟨r10, h10, e10, hF⟩ := zb_some hF
        obtain ⟨_, rfl⟩ := zr hF
        exact ((((frrR h).tr (fr_X8_misuseOf e1)).tr (fr_X11_within e6)).tr (fr_X4_moveTo e10))
      · have hF := im c7 hF
        exact (((frrR h).tr (fr_X8_misuseOf e1)).tr (fr_X11_within e6)).tr (f_X8_passOn_46 hF)
  · have hF := im c2 hF
    obtain ⟨r11, h11, e11, hF⟩ := zb_some hF
    obtain ⟨g13, hF⟩ := zg hF
    obtain ⟨r12, h12, e12, hF⟩ := zb_some hF
    obtain ⟨_, rfl⟩ := zr hF
    exact ((((frrR h).tr (fr_X8_misuseOf e1)).tr (fr_X8_partOf e11)).tr (fr_X8_fail e12))
theorem fr_X8_passOn {l0 l1 l2 l3 : Int} {h : zH} {r : Int} {h' : zH} (hF : F_X8_passOn l0 l1 l2 l3 h = some (r, h')) : FrR h h' := f_X8_passOn_0 hF
theorem f_X8_callAct_43 {l0 l1 : Int} {h : zH} {r : Int} {h' : zH} (hF : F_X8_callAct_43 l0 l1 h = some (r, h')) : FrR h h' := by
  unfold F_X8_callAct_43 at hF
  obtain ⟨g2, hF⟩ := zg hF
  obtain ⟨r1, h1, e1, hF⟩ := zb_some hF
  obtain ⟨_, rfl⟩ := zr hF
  exact ((frrR h).tr (fr_X8_fail e1))
theorem f_X8_callAct_0 {l0 l1 l2 l3 : Int} {h : zH} {r : Int} {h' : zH} (hF : F_X8_callAct_0 l0 l1 l2 l3 h = some (r, h')) : FrR h h' := by
  unfold F_X8_callAct_0 at hF
  obtain ⟨g1, hF⟩ := zg hF
  obtain ⟨r2, h2, e2, hF⟩ := zb_some hF
  by_cases c3 : gt h2 8 l0 3 < 10
  · have hF := ip c3 hF
    by_cases c4 : r2 = -1
    · have hF := ip c4 hF
      exact ((frrR h).tr (fr_X11_findScript e2)).tr (f_X8_callAct_43 hF)
    · have hF := im c4 hF
      obtain ⟨g6, hF⟩ := zg hF
      obtain ⟨r5, h5, e5, hF⟩ := zb_some hF
      by_cases c7 : r5 = 0
      · have hF := ip c7 hF
        obtain ⟨r8, h8, e8, hF⟩ := zb_some hF
        obtain ⟨_, rfl⟩ := zr hF
        exact ((((frrR h).tr (fr_X11_findScript e2)).tr (fr_X10_faultNumber e5)).tr (fr_X8_enter e8))
      · have hF := im c7 hF
        exact (((frrR h).tr (fr_X11_findScript e2)).tr (fr_X10_faultNumber e5)).tr (f_X8_callAct_43 hF)
  · have hF := im c3 hF
    obtain ⟨r9, h9, e9, hF⟩ := zb_some hF
    obtain ⟨_, rfl⟩ := zr hF
    exact (((frrR h).tr (fr_X11_findScript e2)).tr (fr_X8_fail e9))
theorem fr_X8_callAct {l0 l1 l2 l3 : Int} {h : zH} {r : Int} {h' : zH} (hF : F_X8_callAct l0 l1 l2 l3 h = some (r, h')) : FrR h h' := f_X8_callAct_0 hF
theorem f_X8_beginBlock_68 {l1 : Int} {h : zH} {r : Int} {h' : zH} (hF : F_X8_beginBlock_68 l1 h = some (r, h')) : FrR h h' := by
  unfold F_X8_beginBlock_68 at hF
  obtain ⟨g1, hF⟩ := zg hF
  obtain ⟨_, rfl⟩ := zr hF
  exact (frpR (by decide) (frrR h))
theorem f_X8_beginBlock_28 {l0 l1 l2 l3 : Int} {h : zH} {r : Int} {h' : zH} (hF : F_X8_beginBlock_28 l0 l1 l2 l3 h = some (r, h')) : FrR h h' := by
  unfold F_X8_beginBlock_28 at hF
  obtain ⟨g1, hF⟩ := zg hF
  by_cases c2 : l2 ≠ 11
  · have hF := ip c2 hF
    obtain ⟨g4, hF⟩ := zg hF
    obtain ⟨r3, h3, e3, hF⟩ := zb_some hF
    by_cases c5 : l2 ≠ 12
    · have hF := ip c5 hF
      exact ((frrR h).tr (fr_X8_push e3)).tr (f_X8_beginBlock_68 hF)
    · have hF := im c5 hF
      obtain ⟨r6, h6, e6, hF⟩ := zb_some hF
      exact (((frrR h).tr (fr_X8_push e3)).tr (fr_X8_openScope e6)).tr (f_X8_beginBlock_68 hF)
  · have hF := im c2 hF
    obtain ⟨g8, hF⟩ := zg hF
    obtain ⟨r7, h7, e7, hF⟩ := zb_some hF
    by_cases c9 : l2 ≠ 12
    · have hF := ip c9 hF
      exact ((frrR h).tr (fr_X8_push e7)).tr (f_X8_beginBlock_68 hF)
    · have hF := im c9 hF
      obtain ⟨r10, h10, e10, hF⟩ := zb_some hF
      exact (((frrR h).tr (fr_X8_push e7)).tr (fr_X8_openScope e10)).tr (f_X8_beginBlock_68 hF)
theorem f_X8_beginBlock_0 {l0 l1 l2 l3 : Int} {h : zH} {r : Int} {h' : zH} (hF : F_X8_beginBlock_0 l0 l1 l2 l3 h = some (r, h')) : FrR h h' := by
  unfold F_X8_beginBlock_0 at hF
  by_cases c1 : l2 ≠ 11
  · have hF := ip c1 hF
    exact (frrR h).tr (f_X8_beginBlock_28 hF)
  · have hF := im c1 hF
    by_cases c2 : l3 ≠ 0
    · have hF := ip c2 hF
      exact (frrR h).tr (f_X8_beginBlock_28 hF)
    · have hF := im c2 hF
      obtain ⟨g3, hF⟩ := zg hF
      obtain ⟨g5, hF⟩ := zg hF
      obtain ⟨r4, h4, e4, hF⟩ := zb_some hF
      obtain ⟨_, rfl⟩ := zr hF
      exact (frpR (by decide) ((frrR h).tr (fr_X10_nextOf e4)))
theorem fr_X8_beginBlock {l0 l1 l2 l3 : Int} {h : zH} {r : Int} {h' : zH} (hF : F_X8_beginBlock l0 l1 l2 l3 h = some (r, h')) : FrR h h' := f_X8_beginBlock_0 hF
theorem f_X8_doLine_223 {l0 l1 l2 : Int} {h : zH} {r : Int} {h' : zH} (hF : F_X8_doLine_223 l0 l1 l2 h = some (r, h')) : FrR h h' := by
  unfold F_X8_doLine_223 at hF
  obtain ⟨g1, hF⟩ := zg hF
  by_cases c2 : gt h 8 l0 12 ≠ 0
  · have hF := ip c2 hF
    obtain ⟨_, rfl⟩ := zr hF
    exact (frrR h)
  · have hF := im c2 hF
    by_cases c3 : 6 < l2
    · have hF := ip c3 hF
      obtain ⟨_, rfl⟩ := zr hF
      exact (frrR h)
    · have hF := im c3 hF
      obtain ⟨g4, hF⟩ := zg hF
      obtain ⟨_, rfl⟩ := zr hF
      exact (frpR (by decide) (frrR h))
theorem f_X8_doLine_0 {l0 l1 l2 : Int} {h : zH} {r : Int} {h' : zH} (hF : F_X8_doLine_0 l0 l1 l2 h = some (r, h')) : FrR h h' := by
  unfold F_X8_doLine_0 at hF
  obtain ⟨g1, hF⟩ := zg hF
  obtain ⟨g3, hF⟩ := zg hF
  obtain ⟨r2, h2, e2, hF⟩ := zb_some hF
  obtain ⟨g5, hF⟩ := zg hF
  obtain ⟨r4, h4, e4, hF⟩ := zb_some hF
  by_cases c6 : l2 = 0
  · have hF := ip c6 hF
    obtain ⟨g10, hF⟩ := zg hF
    obtain ⟨r9, h9, e9, hF⟩ := zb_some hF
    exact ((((frrR h).tr (fr_X10_aAt e2)).tr (fr_X10_bAt e4)).tr (fr_X8_borrow e9)).tr (f_X8_doLine_223 hF)
  · have hF := im c6 hF
    by_cases c11 : l2 = 1
    · have hF := ip c11 hF
      obtain ⟨g15, hF⟩ := zg hF
      obtain ⟨r14, h14, e14, hF⟩ := zb_some hF
      exact ((((frrR h).tr (fr_X10_aAt e2)).tr (fr_X10_bAt e4)).tr (fr_X8_take e14)).tr (f_X8_doLine_223 hF)
    · have hF := im c11 hF
      by_cases c16 : l2 = 2
      · have hF := ip c16 hF
        obtain ⟨g20, hF⟩ := zg hF
        obtain ⟨r19, h19, e19, hF⟩ := zb_some hF
        exact ((((frrR h).tr (fr_X10_aAt e2)).tr (fr_X10_bAt e4)).tr (fr_X8_borrow e19)).tr (f_X8_doLine_223 hF)
      · have hF := im c16 hF
        by_cases c21 : l2 = 3
        · have hF := ip c21 hF
          obtain ⟨r25, h25, e25, hF⟩ := zb_some hF
          obtain ⟨g27, hF⟩ := zg hF
          obtain ⟨r26, h26, e26, hF⟩ := zb_some hF
          exact (((((frrR h).tr (fr_X10_aAt e2)).tr (fr_X10_bAt e4)).tr (fr_X1_in e25)).tr (fr_X8_use e26)).tr (f_X8_doLine_223 hF)
        · have hF := im c21 hF
          by_cases c28 : l2 = 4
          · have hF := ip c28 hF
            obtain ⟨r32, h32, e32, hF⟩ := zb_some hF
            obtain ⟨g34, hF⟩ := zg hF
            obtain ⟨r33, h33, e33, hF⟩ := zb_some hF
            exact (((((frrR h).tr (fr_X10_aAt e2)).tr (fr_X10_bAt e4)).tr (fr_X1_in e32)).tr (fr_X8_bringBack e33)).tr (f_X8_doLine_223 hF)
          · have hF := im c28 hF
            by_cases c35 : l2 = 5
            · have hF := ip c35 hF
              obtain ⟨r39, h39, e39, hF⟩ := zb_some hF
              obtain ⟨g41, hF⟩ := zg hF
              obtain ⟨r40, h40, e40, hF⟩ := zb_some hF
              exact (((((frrR h).tr (fr_X10_aAt e2)).tr (fr_X10_bAt e4)).tr (fr_X1_in e39)).tr (fr_X8_lendOn e40)).tr (f_X8_doLine_223 hF)
            · have hF := im c35 hF
              by_cases c42 : l2 = 6
              · have hF := ip c42 hF
                obtain ⟨r46, h46, e46, hF⟩ := zb_some hF
                obtain ⟨g48, hF⟩ := zg hF
                obtain ⟨r47, h47, e47, hF⟩ := zb_some hF
                exact (((((frrR h).tr (fr_X10_aAt e2)).tr (fr_X10_bAt e4)).tr (fr_X1_in e46)).tr (fr_X8_passOn e47)).tr (f_X8_doLine_223 hF)
              · have hF := im c42 hF
                by_cases c49 : l2 = 7
                · have hF := ip c49 hF
                  obtain ⟨r53, h53, e53, hF⟩ := zb_some hF
                  obtain ⟨g55, hF⟩ := zg hF
                  obtain ⟨r54, h54, e54, hF⟩ := zb_some hF
                  exact (((((frrR h).tr (fr_X10_aAt e2)).tr (fr_X10_bAt e4)).tr (fr_X1_in e53)).tr (fr_X8_callAct e54)).tr (f_X8_doLine_223 hF)
                · have hF := im c49 hF
                  by_cases c56 : l2 = 8
                  · have hF := ip c56 hF
                    obtain ⟨g60, hF⟩ := zg hF
                    obtain ⟨r59, h59, e59, hF⟩ := zb_some hF
                    exact ((((frrR h).tr (fr_X10_aAt e2)).tr (fr_X10_bAt e4)).tr (fr_X8_fail e59)).tr (f_X8_doLine_223 hF)
                  · have hF := im c56 hF
                    by_cases c61 : l2 = 9
                    · have hF := ip c61 hF
                      obtain ⟨g63, hF⟩ := zg hF
                      exact (frpR (by decide) (((frrR h).tr (fr_X10_aAt e2)).tr (fr_X10_bAt e4))).tr (f_X8_doLine_223 hF)
                    · have hF := im c61 hF
                      by_cases c64 : l2 = 10
                      · have hF := ip c64 hF
                        obtain ⟨g66, hF⟩ := zg hF
                        exact (frpR (by decide) (((frrR h).tr (fr_X10_aAt e2)).tr (fr_X10_bAt e4))).tr (f_X8_doLine_223 hF)
                      · have hF := im c64 hF
                        obtain ⟨g68, hF⟩ := zg hF
                        obtain ⟨r67, h67, e67, hF⟩ := zb_some hF
                        exact ((((frrR h).tr (fr_X10_aAt e2)).tr (fr_X10_bAt e4)).tr (fr_X8_beginBlock e67)).tr (f_X8_doLine_223 hF)
theorem fr_X8_doLine {l0 l1 l2 : Int} {h : zH} {r : Int} {h' : zH} (hF : F_X8_doLine l0 l1 l2 h = some (r, h')) : FrR h h' := f_X8_doLine_0 hF
theorem f_X8_spend_49 {ag0 : Int → zH → zO} (hag0 : ∀ (l0 : Int) (h : zH) (r : Int) (h' : zH), ag0 l0 h = some (r, h') → FrR h h') {l0 : Int} {h : zH} {r : Int} {h' : zH} (hF : F_X8_spend_49 ag0 l0 h = some (r, h')) : FrR h h' := by
  unfold F_X8_spend_49 at hF
  obtain ⟨g1, hF⟩ := zg hF
  exact (frpR (by decide) (frpR (by decide) (frrR h))).tr (hag0 _ _ _ _ hF)
theorem f_X8_spend_19b {ag0 : Int → zH → zO} {ag19 : Int → Int → Int → zH → zO} (hag0 : ∀ (l0 : Int) (h : zH) (r : Int) (h' : zH), ag0 l0 h = some (r, h') → FrR h h') (hag19 : ∀ (l0 l1 l2 : Int) (h : zH) (r : Int) (h' : zH), ag19 l0 l1 l2 h = some (r, h') → FrR h h') {l0 l1 l2 : Int} {h : zH} {r : Int} {h' : zH} (hF : F_X8_spend_19b ag0 ag19 l0 l1 l2 h = some (r, h')) : FrR h h' := by
  unfold F_X8_spend_19b at hF
  by_cases c1 : 160 ≤ l2
  · have hF := ip c1 hF
    exact (frrR h).tr (f_X8_spend_49 hag0 hF)
  · have hF := im c1 hF
    obtain ⟨g2, hF⟩ := zg hF
    by_cases c3 : gt h 9 l1 2 = -1
    · have hF := ip c3 hF
      exact (frrR h).tr (f_X8_spend_49 hag0 hF)
    · have hF := im c3 hF
      obtain ⟨g5, hF⟩ := zg hF
      obtain ⟨r4, h4, e4, hF⟩ := zb_some hF
      exact ((frrR h).tr (fr_X8_giveUp e4)).tr (hag19 _ _ _ _ _ _ hF)
theorem f_X8_spend_19 {ag0 : Int → zH → zO} (hag0 : ∀ (l0 : Int) (h : zH) (r : Int) (h' : zH), ag0 l0 h = some (r, h') → FrR h h') : ∀ (n : Nat) (l0 l1 l2 : Int) (h : zH) (r : Int) (h' : zH), F_X8_spend_19 ag0 n l0 l1 l2 h = some (r, h') → FrR h h'
  | 0, _, _, _, _, _, _, hF => by cases hF
  | n + 1, _, _, _, _, _, _, hF => f_X8_spend_19b hag0 (f_X8_spend_19 hag0 n) hF
theorem f_X8_spend_0b {ag0 : Int → zH → zO} (hag0 : ∀ (l0 : Int) (h : zH) (r : Int) (h' : zH), ag0 l0 h = some (r, h') → FrR h h') {l0 : Int} {h : zH} {r : Int} {h' : zH} (hF : F_X8_spend_0b ag0 l0 h = some (r, h')) : FrR h h' := by
  unfold F_X8_spend_0b at hF
  obtain ⟨g1, hF⟩ := zg hF
  by_cases c2 : gt h 8 l0 7 ≤ 0
  · have hF := ip c2 hF
    obtain ⟨_, rfl⟩ := zr hF
    exact (frrR h)
  · have hF := im c2 hF
    obtain ⟨g3, hF⟩ := zg hF
    obtain ⟨g4, hF⟩ := zg hF
    exact (frrR h).tr (f_X8_spend_19 hag0 _ _ _ _ _ _ _ hF)
theorem f_X8_spend_0 : ∀ (n : Nat) (l0 : Int) (h : zH) (r : Int) (h' : zH), F_X8_spend_0 n l0 h = some (r, h') → FrR h h'
  | 0, _, _, _, _, hF => by cases hF
  | n + 1, _, _, _, _, hF => f_X8_spend_0b (f_X8_spend_0 n) hF
theorem fr_X8_spend {l0 : Int} {h : zH} {r : Int} {h' : zH} (hF : F_X8_spend l0 h = some (r, h')) : FrR h h' := f_X8_spend_0 _ _ _ _ _ hF
theorem f_X8_perform_141 {l0 : Int} {h : zH} {r : Int} {h' : zH} (hF : F_X8_perform_141 l0 h = some (r, h')) : FrR h h' := by
  unfold F_X8_perform_141 at hF
  obtain ⟨g1, hF⟩ := zg hF
  by_cases c2 : gt h 8 l0 3 ≤ 0
  · have hF := ip c2 hF
    by_cases c3 : gt h 8 l0 12 ≠ 3
    · have hF := ip c3 hF
      obtain ⟨_, rfl⟩ := zr hF
      exact (frpR (by decide) (frrR h))
    · have hF := im c3 hF
      obtain ⟨_, rfl⟩ := zr hF
      exact (frpR (by decide) (frrR h))
  · have hF := im c2 hF
    obtain ⟨r4, h4, e4, hF⟩ := zb_some hF
    obtain ⟨_, rfl⟩ := zr hF
    exact (frpR (by decide) ((frrR h).tr (fr_X8_spend e4)))
theorem f_X8_perform_111 {ag21 : Int → Int → zH → zO} (hag21 : ∀ (l0 l3 : Int) (h : zH) (r : Int) (h' : zH), ag21 l0 l3 h = some (r, h') → FrR h h') {l0 l3 l4 : Int} {h : zH} {r : Int} {h' : zH} (hF : F_X8_perform_111 ag21 l0 l3 l4 h = some (r, h')) : FrR h h' := by
  unfold F_X8_perform_111 at hF
  obtain ⟨g2, hF⟩ := zg hF
  obtain ⟨r1, h1, e1, hF⟩ := zb_some hF
  exact ((frrR h).tr (fr_X8_reachMark e1)).tr (hag21 _ _ _ _ _ hF)
theorem f_X8_perform_21b {ag21 : Int → Int → zH → zO} (hag21 : ∀ (l0 l3 : Int) (h : zH) (r : Int) (h' : zH), ag21 l0 l3 h = some (r, h') → FrR h h') {l0 l3 : Int} {h : zH} {r : Int} {h' : zH} (hF : F_X8_perform_21b ag21 l0 l3 h = some (r, h')) : FrR h h' := by
  unfold F_X8_perform_21b at hF
  by_cases c1 : 1000000 ≤ l3
  · have hF := ip c1 hF
    exact (frrR h).tr (f_X8_perform_141 hF)
  · have hF := im c1 hF
    obtain ⟨g2, hF⟩ := zg hF
    by_cases c3 : gt h 8 l0 3 ≤ 0
    · have hF := ip c3 hF
      exact (frrR h).tr (f_X8_perform_141 hF)
    · have hF := im c3 hF
      by_cases c4 : gt h 8 l0 12 = 4
      · have hF := ip c4 hF
        exact (frrR h).tr (f_X8_perform_141 hF)
      · have hF := im c4 hF
        obtain ⟨g5, hF⟩ := zg hF
        obtain ⟨g6, hF⟩ := zg hF
        obtain ⟨g7, hF⟩ := zg hF
        obtain ⟨g9, hF⟩ := zg hF
        obtain ⟨r8, h8, e8, hF⟩ := zb_some hF
        by_cases c10 : gt h8 8 l0 12 = 0
        · have hF := ip c10 hF
          by_cases c11 : r8 = (-1)
          · have hF := ip c11 hF
            exact ((frrR h).tr (fr_X10_opAt e8)).tr (f_X8_perform_111 hag21 hF)
          · have hF := im c11 hF
            by_cases c12 : r8 = 14
            · have hF := ip c12 hF
              exact ((frrR h).tr (fr_X10_opAt e8)).tr (f_X8_perform_111 hag21 hF)
            · have hF := im c12 hF
              by_cases c13 : r8 = 15
              · have hF := ip c13 hF
                exact ((frrR h).tr (fr_X10_opAt e8)).tr (f_X8_perform_111 hag21 hF)
              · have hF := im c13 hF
                by_cases c14 : r8 ≠ 16
                · have hF := ip c14 hF
                  obtain ⟨r15, h15, e15, hF⟩ := zb_some hF
                  by_cases c16 : r15 = 0
                  · have hF := ip c16 hF
                    exact (((frrR h).tr (fr_X10_opAt e8)).tr (fr_X8_step e15)).tr (hag21 _ _ _ _ _ hF)
                  · have hF := im c16 hF
                    obtain ⟨r17, h17, e17, hF⟩ := zb_some hF
                    exact ((((frrR h).tr (fr_X10_opAt e8)).tr (fr_X8_step e15)).tr (fr_X8_doLine e17)).tr (hag21 _ _ _ _ _ hF)
                · have hF := im c14 hF
                  exact ((frrR h).tr (fr_X10_opAt e8)).tr (f_X8_perform_111 hag21 hF)
        · have hF := im c10 hF
          obtain ⟨r18, h18, e18, hF⟩ := zb_some hF
          exact (((frrR h).tr (fr_X10_opAt e8)).tr (fr_X8_leave e18)).tr (hag21 _ _ _ _ _ hF)
theorem f_X8_perform_21 : ∀ (n : Nat) (l0 l3 : Int) (h : zH) (r : Int) (h' : zH), F_X8_perform_21 n l0 l3 h = some (r, h') → FrR h h'
  | 0, _, _, _, _, _, hF => by cases hF
  | n + 1, _, _, _, _, _, hF => f_X8_perform_21b (f_X8_perform_21 n) hF
theorem f_X8_perform_0 {l0 l1 l2 : Int} {h : zH} {r : Int} {h' : zH} (hF : F_X8_perform_0 l0 l1 l2 h = some (r, h')) : FrR h h' := by
  unfold F_X8_perform_0 at hF
  obtain ⟨g2, hF⟩ := zg hF
  obtain ⟨r1, h1, e1, hF⟩ := zb_some hF
  obtain ⟨r3, h3, e3, hF⟩ := zb_some hF
  obtain ⟨r4, h4, e4, hF⟩ := zb_some hF
  exact ((((frrR h).tr (fr_X8_reset e1)).tr (fr_X11_findScript e3)).tr (fr_X8_enter e4)).tr (f_X8_perform_21 _ _ _ _ _ _ hF)
theorem fr_X8_perform {l0 l1 l2 : Int} {h : zH} {r : Int} {h' : zH} (hF : F_X8_perform l0 l1 l2 h = some (r, h')) : FrR h h' := f_X8_perform_0 hF
theorem f_X11_run_0 {l0 l1 l2 : Int} {h : zH} {r : Int} {h' : zH} (hF : F_X11_run_0 l0 l1 l2 h = some (r, h')) : FrR h h' := by
  unfold F_X11_run_0 at hF
  obtain ⟨g1, hF⟩ := zg hF
  obtain ⟨r2, h2, e2, hF⟩ := zb_some hF
  by_cases c3 : r2 = -1
  · have hF := ip c3 hF
    obtain ⟨_, rfl⟩ := zr hF
    exact ((frrR h).tr (fr_X11_findScript e2))
  · have hF := im c3 hF
    obtain ⟨r4, h4, e4, hF⟩ := zb_some hF
    by_cases c5 : r4 ≠ 0
    · have hF := ip c5 hF
      obtain ⟨g7, hF⟩ := zg hF
      obtain ⟨r6, h6, e6, hF⟩ := zb_some hF
      by_cases c8 : r6 ≠ 0
      · have hF := ip c8 hF
        obtain ⟨_, rfl⟩ := zr hF
        exact ((((frrR h).tr (fr_X11_findScript e2)).tr (fr_X11_within e4)).tr (fr_X10_faultNumber e6))
      · have hF := im c8 hF
        obtain ⟨g10, hF⟩ := zg hF
        obtain ⟨r9, h9, e9, hF⟩ := zb_some hF
        obtain ⟨_, rfl⟩ := zr hF
        exact (((((frrR h).tr (fr_X11_findScript e2)).tr (fr_X11_within e4)).tr (fr_X10_faultNumber e6)).tr (fr_X8_perform e9))
    · have hF := im c5 hF
      obtain ⟨_, rfl⟩ := zr hF
      exact (((frrR h).tr (fr_X11_findScript e2)).tr (fr_X11_within e4))
theorem fr_X11_run {l0 l1 l2 : Int} {h : zH} {r : Int} {h' : zH} (hF : F_X11_run l0 l1 l2 h = some (r, h')) : FrR h h' := f_X11_run_0 hF
theorem f_X8_told_0 {l0 l1 : Int} {h : zH} {r : Int} {h' : zH} (hF : F_X8_told_0 l0 l1 h = some (r, h')) : FrR h h' := by
  unfold F_X8_told_0 at hF
  by_cases c1 : l1 = 0
  · have hF := ip c1 hF
    obtain ⟨g3, hF⟩ := zg hF
    obtain ⟨_, rfl⟩ := zr hF
    exact (frrR h)
  · have hF := im c1 hF
    by_cases c4 : l1 = 1
    · have hF := ip c4 hF
      obtain ⟨g6, hF⟩ := zg hF
      obtain ⟨_, rfl⟩ := zr hF
      exact (frrR h)
    · have hF := im c4 hF
      by_cases c7 : l1 = 2
      · have hF := ip c7 hF
        obtain ⟨g10, hF⟩ := zg hF
        obtain ⟨g11, hF⟩ := zg hF
        obtain ⟨_, rfl⟩ := zr hF
        exact (frrR h)
      · have hF := im c7 hF
        by_cases c12 : l1 = 3
        · have hF := ip c12 hF
          obtain ⟨g14, hF⟩ := zg hF
          obtain ⟨_, rfl⟩ := zr hF
          exact (frrR h)
        · have hF := im c12 hF
          by_cases c15 : l1 = 4
          · have hF := ip c15 hF
            obtain ⟨g17, hF⟩ := zg hF
            obtain ⟨_, rfl⟩ := zr hF
            exact (frrR h)
          · have hF := im c15 hF
            by_cases c18 : l1 = 5
            · have hF := ip c18 hF
              obtain ⟨g20, hF⟩ := zg hF
              obtain ⟨_, rfl⟩ := zr hF
              exact (frrR h)
            · have hF := im c18 hF
              obtain ⟨g21, hF⟩ := zg hF
              by_cases c22 : gt h 8 l0 17 ≠ 1
              · have hF := ip c22 hF
                obtain ⟨_, rfl⟩ := zr hF
                exact (frrR h)
              · have hF := im c22 hF
                obtain ⟨_, rfl⟩ := zr hF
                exact (frrR h)
theorem fr_X8_told {l0 l1 : Int} {h : zH} {r : Int} {h' : zH} (hF : F_X8_told l0 l1 h = some (r, h')) : FrR h h' := f_X8_told_0 hF
theorem f_X11_ran_0 {l0 l1 : Int} {h : zH} {r : Int} {h' : zH} (hF : F_X11_ran_0 l0 l1 h = some (r, h')) : FrR h h' := by
  unfold F_X11_ran_0 at hF
  obtain ⟨r1, h1, e1, hF⟩ := zb_some hF
  by_cases c2 : r1 = 0
  · have hF := ip c2 hF
    obtain ⟨_, rfl⟩ := zr hF
    exact ((frrR h).tr (fr_X11_within e1))
  · have hF := im c2 hF
    obtain ⟨g3, hF⟩ := zg hF
    obtain ⟨g5, hF⟩ := zg hF
    obtain ⟨r4, h4, e4, hF⟩ := zb_some hF
    obtain ⟨_, rfl⟩ := zr hF
    exact (((frrR h).tr (fr_X11_within e1)).tr (fr_X8_told e4))
theorem fr_X11_ran {l0 l1 : Int} {h : zH} {r : Int} {h' : zH} (hF : F_X11_ran l0 l1 h = some (r, h')) : FrR h h' := f_X11_ran_0 hF
theorem f_X2_told_0 {l0 l1 l2 : Int} {h : zH} {r : Int} {h' : zH} (hF : F_X2_told_0 l0 l1 l2 h = some (r, h')) : FrR h h' := by
  unfold F_X2_told_0 at hF
  obtain ⟨g1, hF⟩ := zg hF
  obtain ⟨r2, h2, e2, hF⟩ := zb_some hF
  by_cases c3 : r2 ≠ 0
  · have hF := ip c3 hF
    by_cases c4 : l2 = 0
    · have hF := ip c4 hF
      obtain ⟨g7, hF⟩ := zg hF
      obtain ⟨g8, hF⟩ := zg hF
      obtain ⟨_, rfl⟩ := zr hF
      exact ((frrR h).tr (fr_X11_within e2))
    · have hF := im c4 hF
      by_cases c9 : l2 = 1
      · have hF := ip c9 hF
        obtain ⟨g12, hF⟩ := zg hF
        obtain ⟨g13, hF⟩ := zg hF
        obtain ⟨_, rfl⟩ := zr hF
        exact ((frrR h).tr (fr_X11_within e2))
      · have hF := im c9 hF
        by_cases c14 : l2 = 2
        · have hF := ip c14 hF
          obtain ⟨g17, hF⟩ := zg hF
          obtain ⟨g18, hF⟩ := zg hF
          obtain ⟨_, rfl⟩ := zr hF
          exact ((frrR h).tr (fr_X11_within e2))
        · have hF := im c14 hF
          by_cases c19 : l2 = 3
          · have hF := ip c19 hF
            obtain ⟨g22, hF⟩ := zg hF
            obtain ⟨g23, hF⟩ := zg hF
            obtain ⟨_, rfl⟩ := zr hF
            exact ((frrR h).tr (fr_X11_within e2))
          · have hF := im c19 hF
            by_cases c24 : l2 = 4
            · have hF := ip c24 hF
              obtain ⟨g27, hF⟩ := zg hF
              obtain ⟨g28, hF⟩ := zg hF
              obtain ⟨_, rfl⟩ := zr hF
              exact ((frrR h).tr (fr_X11_within e2))
            · have hF := im c24 hF
              obtain ⟨g29, hF⟩ := zg hF
              obtain ⟨g30, hF⟩ := zg hF
              obtain ⟨_, rfl⟩ := zr hF
              exact ((frrR h).tr (fr_X11_within e2))
  · have hF := im c3 hF
    obtain ⟨_, rfl⟩ := zr hF
    exact ((frrR h).tr (fr_X11_within e2))
theorem fr_X2_told {l0 l1 l2 : Int} {h : zH} {r : Int} {h' : zH} (hF : F_X2_told l0 l1 l2 h = some (r, h')) : FrR h h' := f_X2_told_0 hF
theorem f_X11_failure_0 {l0 l1 l2 : Int} {h : zH} {r : Int} {h' : zH} (hF : F_X11_failure_0 l0 l1 l2 h = some (r, h')) : FrR h h' := by
  unfold F_X11_failure_0 at hF
  obtain ⟨g1, hF⟩ := zg hF
  obtain ⟨g2, hF⟩ := zg hF
  obtain ⟨g3, hF⟩ := zg hF
  obtain ⟨r4, h4, e4, hF⟩ := zb_some hF
  by_cases c5 : r4 ≠ 0
  · have hF := ip c5 hF
    obtain ⟨r6, h6, e6, hF⟩ := zb_some hF
    by_cases c7 : r6 = 0
    · have hF := ip c7 hF
      obtain ⟨_, rfl⟩ := zr hF
      exact (((frrR h).tr (fr_X11_within e4)).tr (fr_X11_within e6))
    · have hF := im c7 hF
      obtain ⟨g8, hF⟩ := zg hF
      obtain ⟨g10, hF⟩ := zg hF
      obtain ⟨r9, h9, e9, hF⟩ := zb_some hF
      obtain ⟨_, rfl⟩ := zr hF
      exact ((((frrR h).tr (fr_X11_within e4)).tr (fr_X11_within e6)).tr (fr_X2_told e9))
  · have hF := im c5 hF
    obtain ⟨_, rfl⟩ := zr hF
    exact ((frrR h).tr (fr_X11_within e4))
theorem fr_X11_failure {l0 l1 l2 : Int} {h : zH} {r : Int} {h' : zH} (hF : F_X11_failure l0 l1 l2 h = some (r, h')) : FrR h h' := f_X11_failure_0 hF
theorem f_X11_leaks_0 {l0 : Int} {h : zH} {r : Int} {h' : zH} (hF : F_X11_leaks_0 l0 h = some (r, h')) : FrR h h' := by
  unfold F_X11_leaks_0 at hF
  obtain ⟨g1, hF⟩ := zg hF
  obtain ⟨g2, hF⟩ := zg hF
  obtain ⟨_, rfl⟩ := zr hF
  exact (frrR h)
theorem fr_X11_leaks {l0 : Int} {h : zH} {r : Int} {h' : zH} (hF : F_X11_leaks l0 h = some (r, h')) : FrR h h' := f_X11_leaks_0 hF
theorem f_X3_findHeld_0 {l0 l1 : Int} {h : zH} {r : Int} {h' : zH} (hF : F_X3_findHeld_0 l0 l1 h = some (r, h')) : FrR h h' := by
  unfold F_X3_findHeld_0 at hF
  obtain ⟨g1, hF⟩ := zg hF
  obtain ⟨r2, h2, e2, hF⟩ := zb_some hF
  by_cases c3 : r2 = 0
  · have hF := ip c3 hF
    obtain ⟨_, rfl⟩ := zr hF
    exact ((frrR h).tr (fr_X11_within e2))
  · have hF := im c3 hF
    obtain ⟨g4, hF⟩ := zg hF
    obtain ⟨g5, hF⟩ := zg hF
    obtain ⟨r6, h6, e6, hF⟩ := zb_some hF
    obtain ⟨_, rfl⟩ := zr hF
    exact (((frrR h).tr (fr_X11_within e2)).tr (fr_X3_find e6))
theorem fr_X3_findHeld {l0 l1 : Int} {h : zH} {r : Int} {h' : zH} (hF : F_X3_findHeld l0 l1 h = some (r, h')) : FrR h h' := f_X3_findHeld_0 hF
theorem f_X11_leak_0 {l0 l1 l2 : Int} {h : zH} {r : Int} {h' : zH} (hF : F_X11_leak_0 l0 l1 l2 h = some (r, h')) : FrR h h' := by
  unfold F_X11_leak_0 at hF
  obtain ⟨g1, hF⟩ := zg hF
  obtain ⟨g3, hF⟩ := zg hF
  obtain ⟨r2, h2, e2, hF⟩ := zb_some hF
  by_cases c4 : r2 ≠ -1
  · have hF := ip c4 hF
    by_cases c5 : l2 = 0
    · have hF := ip c5 hF
      obtain ⟨g7, hF⟩ := zg hF
      obtain ⟨_, rfl⟩ := zr hF
      exact ((frrR h).tr (fr_X3_findHeld e2))
    · have hF := im c5 hF
      by_cases c8 : l2 = 1
      · have hF := ip c8 hF
        obtain ⟨g10, hF⟩ := zg hF
        obtain ⟨_, rfl⟩ := zr hF
        exact ((frrR h).tr (fr_X3_findHeld e2))
      · have hF := im c8 hF
        by_cases c11 : l2 = 2
        · have hF := ip c11 hF
          obtain ⟨g13, hF⟩ := zg hF
          obtain ⟨_, rfl⟩ := zr hF
          exact ((frrR h).tr (fr_X3_findHeld e2))
        · have hF := im c11 hF
          obtain ⟨_, rfl⟩ := zr hF
          exact ((frrR h).tr (fr_X3_findHeld e2))
  · have hF := im c4 hF
    obtain ⟨_, rfl⟩ := zr hF
    exact ((frrR h).tr (fr_X3_findHeld e2))
theorem fr_X11_leak {l0 l1 l2 : Int} {h : zH} {r : Int} {h' : zH} (hF : F_X11_leak l0 l1 l2 h = some (r, h')) : FrR h h' := f_X11_leak_0 hF
theorem f_X11_trace_0 {l0 l1 l2 l3 : Int} {h : zH} {r : Int} {h' : zH} (hF : F_X11_trace_0 l0 l1 l2 l3 h = some (r, h')) : FrR h h' := by
  unfold F_X11_trace_0 at hF
  obtain ⟨g1, hF⟩ := zg hF
  obtain ⟨g3, hF⟩ := zg hF
  obtain ⟨r2, h2, e2, hF⟩ := zb_some hF
  by_cases c4 : r2 = -1
  · have hF := ip c4 hF
    obtain ⟨_, rfl⟩ := zr hF
    exact ((frrR h).tr (fr_X3_findHeld e2))
  · have hF := im c4 hF
    obtain ⟨g5, hF⟩ := zg hF
    obtain ⟨r6, h6, e6, hF⟩ := zb_some hF
    by_cases c7 : r6 ≠ 0
    · have hF := ip c7 hF
      obtain ⟨r8, h8, e8, hF⟩ := zb_some hF
      by_cases c9 : r8 ≠ 0
      · have hF := ip c9 hF
        by_cases c10 : l3 ≠ 0
        · have hF := ip c10 hF
          obtain ⟨g11, hF⟩ := zg hF
          obtain ⟨g12, hF⟩ := zg hF
          obtain ⟨_, rfl⟩ := zr hF
          exact ((((frrR h).tr (fr_X3_findHeld e2)).tr (fr_X11_within e6)).tr (fr_X11_within e8))
        · have hF := im c10 hF
          obtain ⟨g13, hF⟩ := zg hF
          obtain ⟨g14, hF⟩ := zg hF
          obtain ⟨_, rfl⟩ := zr hF
          exact ((((frrR h).tr (fr_X3_findHeld e2)).tr (fr_X11_within e6)).tr (fr_X11_within e8))
      · have hF := im c9 hF
        obtain ⟨_, rfl⟩ := zr hF
        exact ((((frrR h).tr (fr_X3_findHeld e2)).tr (fr_X11_within e6)).tr (fr_X11_within e8))
    · have hF := im c7 hF
      obtain ⟨_, rfl⟩ := zr hF
      exact (((frrR h).tr (fr_X3_findHeld e2)).tr (fr_X11_within e6))
theorem fr_X11_trace {l0 l1 l2 l3 : Int} {h : zH} {r : Int} {h' : zH} (hF : F_X11_trace l0 l1 l2 l3 h = some (r, h')) : FrR h h' := f_X11_trace_0 hF
theorem f_X11_giveBack_0 {l0 l1 : Int} {h : zH} {r : Int} {h' : zH} (hF : F_X11_giveBack_0 l0 l1 h = some (r, h')) : FrR h h' := by
  unfold F_X11_giveBack_0 at hF
  obtain ⟨g1, hF⟩ := zg hF
  obtain ⟨g3, hF⟩ := zg hF
  obtain ⟨r2, h2, e2, hF⟩ := zb_some hF
  by_cases c4 : r2 ≠ -1
  · have hF := ip c4 hF
    obtain ⟨g6, hF⟩ := zg hF
    obtain ⟨r5, h5, e5, hF⟩ := zb_some hF
    by_cases c7 : r5 = 0
    · have hF := ip c7 hF
      obtain ⟨_, rfl⟩ := zr hF
      exact (((frrR h).tr (fr_X3_findHeld e2)).tr (fr_X3_takeBack e5))
    · have hF := im c7 hF
      obtain ⟨_, rfl⟩ := zr hF
      exact (((frrR h).tr (fr_X3_findHeld e2)).tr (fr_X3_takeBack e5))
  · have hF := im c4 hF
    obtain ⟨_, rfl⟩ := zr hF
    exact ((frrR h).tr (fr_X3_findHeld e2))
theorem fr_X11_giveBack {l0 l1 : Int} {h : zH} {r : Int} {h' : zH} (hF : F_X11_giveBack l0 l1 h = some (r, h')) : FrR h h' := f_X11_giveBack_0 hF
theorem f_X3_deposit_5b {ag5 : Int → Int → Int → Int → zH → zO} (hag5 : ∀ (l0 l1 l2 l4 : Int) (h : zH) (r : Int) (h' : zH), ag5 l0 l1 l2 l4 h = some (r, h') → FrR h h') {l0 l1 l2 l4 : Int} {h : zH} {r : Int} {h' : zH} (hF : F_X3_deposit_5b ag5 l0 l1 l2 l4 h = some (r, h')) : FrR h h' := by
  unfold F_X3_deposit_5b at hF
  obtain ⟨g1, hF⟩ := zg hF
  by_cases c2 : gt h 3 l0 1 ≤ l4
  · have hF := ip c2 hF
    obtain ⟨_, rfl⟩ := zr hF
    exact (frrR h)
  · have hF := im c2 hF
    obtain ⟨g3, hF⟩ := zg hF
    obtain ⟨g4, hF⟩ := zg hF
    by_cases c5 : gt h 27 (gt h 3 l0 0) l4 = -1
    · have hF := ip c5 hF
      exact (frrR h).tr (hag5 _ _ _ _ _ _ _ hF)
    · have hF := im c5 hF
      obtain ⟨g6, hF⟩ := zg hF
      by_cases c7 : gt h 6 (gt h 27 (gt h 3 l0 0) l4) 3 ≠ 1
      · have hF := ip c7 hF
        exact (frrR h).tr (hag5 _ _ _ _ _ _ _ hF)
      · have hF := im c7 hF
        by_cases c8 : gt h 6 (gt h 27 (gt h 3 l0 0) l4) 4 ≠ l1
        · have hF := ip c8 hF
          exact (frrR h).tr (hag5 _ _ _ _ _ _ _ hF)
        · have hF := im c8 hF
          exact (frrR h).tr (hag5 _ _ _ _ _ _ _ hF)
theorem f_X3_deposit_5 : ∀ (n : Nat) (l0 l1 l2 l4 : Int) (h : zH) (r : Int) (h' : zH), F_X3_deposit_5 n l0 l1 l2 l4 h = some (r, h') → FrR h h'
  | 0, _, _, _, _, _, _, _, hF => by cases hF
  | n + 1, _, _, _, _, _, _, _, hF => f_X3_deposit_5b (f_X3_deposit_5 n) hF
theorem f_X3_deposit_0 {l0 l1 : Int} {h : zH} {r : Int} {h' : zH} (hF : F_X3_deposit_0 l0 l1 h = some (r, h')) : FrR h h' := by
  unfold F_X3_deposit_0 at hF
  exact (frrR h).tr (f_X3_deposit_5 _ _ _ _ _ _ _ _ hF)
theorem fr_X3_deposit {l0 l1 : Int} {h : zH} {r : Int} {h' : zH} (hF : F_X3_deposit l0 l1 h = some (r, h')) : FrR h h' := f_X3_deposit_0 hF
theorem f_X11_cents_0 {l0 l1 l2 : Int} {h : zH} {r : Int} {h' : zH} (hF : F_X11_cents_0 l0 l1 l2 h = some (r, h')) : FrR h h' := by
  unfold F_X11_cents_0 at hF
  obtain ⟨r1, h1, e1, hF⟩ := zb_some hF
  by_cases c2 : r1 ≠ 0
  · have hF := ip c2 hF
    obtain ⟨r3, h3, e3, hF⟩ := zb_some hF
    by_cases c4 : r3 ≠ 0
    · have hF := ip c4 hF
      by_cases c5 : l2 ≠ 0
      · have hF := ip c5 hF
        obtain ⟨g6, hF⟩ := zg hF
        obtain ⟨g7, hF⟩ := zg hF
        obtain ⟨g8, hF⟩ := zg hF
        obtain ⟨g9, hF⟩ := zg hF
        obtain ⟨_, rfl⟩ := zr hF
        exact (((frrR h).tr (fr_X11_within e1)).tr (fr_X11_within e3))
      · have hF := im c5 hF
        obtain ⟨g10, hF⟩ := zg hF
        obtain ⟨g12, hF⟩ := zg hF
        obtain ⟨r11, h11, e11, hF⟩ := zb_some hF
        obtain ⟨_, rfl⟩ := zr hF
        exact ((((frrR h).tr (fr_X11_within e1)).tr (fr_X11_within e3)).tr (fr_X3_deposit e11))
    · have hF := im c4 hF
      obtain ⟨_, rfl⟩ := zr hF
      exact (((frrR h).tr (fr_X11_within e1)).tr (fr_X11_within e3))
  · have hF := im c2 hF
    obtain ⟨_, rfl⟩ := zr hF
    exact ((frrR h).tr (fr_X11_within e1))
theorem fr_X11_cents {l0 l1 l2 : Int} {h : zH} {r : Int} {h' : zH} (hF : F_X11_cents l0 l1 l2 h = some (r, h')) : FrR h h' := f_X11_cents_0 hF
theorem f_X5_told_0 {l0 l1 l2 : Int} {h : zH} {r : Int} {h' : zH} (hF : F_X5_told_0 l0 l1 l2 h = some (r, h')) : FrR h h' := by
  unfold F_X5_told_0 at hF
  obtain ⟨g1, hF⟩ := zg hF
  obtain ⟨r2, h2, e2, hF⟩ := zb_some hF
  by_cases c3 : r2 ≠ 0
  · have hF := ip c3 hF
    by_cases c4 : gt h2 5 l0 4 < l1
    · have hF := ip c4 hF
      by_cases c5 : l2 = 0
      · have hF := ip c5 hF
        obtain ⟨g8, hF⟩ := zg hF
        obtain ⟨g9, hF⟩ := zg hF
        obtain ⟨_, rfl⟩ := zr hF
        exact ((frrR h).tr (fr_X11_within e2))
      · have hF := im c5 hF
        by_cases c10 : l2 = 1
        · have hF := ip c10 hF
          obtain ⟨g13, hF⟩ := zg hF
          obtain ⟨g14, hF⟩ := zg hF
          obtain ⟨_, rfl⟩ := zr hF
          exact ((frrR h).tr (fr_X11_within e2))
        · have hF := im c10 hF
          obtain ⟨g15, hF⟩ := zg hF
          obtain ⟨g16, hF⟩ := zg hF
          obtain ⟨_, rfl⟩ := zr hF
          exact ((frrR h).tr (fr_X11_within e2))
    · have hF := im c4 hF
      by_cases c17 : l2 = 0
      · have hF := ip c17 hF
        obtain ⟨g20, hF⟩ := zg hF
        obtain ⟨g21, hF⟩ := zg hF
        obtain ⟨_, rfl⟩ := zr hF
        exact ((frrR h).tr (fr_X11_within e2))
      · have hF := im c17 hF
        by_cases c22 : l2 = 1
        · have hF := ip c22 hF
          obtain ⟨g25, hF⟩ := zg hF
          obtain ⟨g26, hF⟩ := zg hF
          obtain ⟨_, rfl⟩ := zr hF
          exact ((frrR h).tr (fr_X11_within e2))
        · have hF := im c22 hF
          obtain ⟨g27, hF⟩ := zg hF
          obtain ⟨g28, hF⟩ := zg hF
          obtain ⟨_, rfl⟩ := zr hF
          exact ((frrR h).tr (fr_X11_within e2))
  · have hF := im c3 hF
    obtain ⟨_, rfl⟩ := zr hF
    exact ((frrR h).tr (fr_X11_within e2))
theorem fr_X5_told {l0 l1 l2 : Int} {h : zH} {r : Int} {h' : zH} (hF : F_X5_told l0 l1 l2 h = some (r, h')) : FrR h h' := f_X5_told_0 hF
theorem f_X11_log_0 {l0 l1 l2 : Int} {h : zH} {r : Int} {h' : zH} (hF : F_X11_log_0 l0 l1 l2 h = some (r, h')) : FrR h h' := by
  unfold F_X11_log_0 at hF
  obtain ⟨r1, h1, e1, hF⟩ := zb_some hF
  by_cases c2 : r1 = 0
  · have hF := ip c2 hF
    obtain ⟨_, rfl⟩ := zr hF
    exact ((frrR h).tr (fr_X11_within e1))
  · have hF := im c2 hF
    obtain ⟨g3, hF⟩ := zg hF
    obtain ⟨g4, hF⟩ := zg hF
    obtain ⟨g6, hF⟩ := zg hF
    obtain ⟨r5, h5, e5, hF⟩ := zb_some hF
    obtain ⟨_, rfl⟩ := zr hF
    exact (((frrR h).tr (fr_X11_within e1)).tr (fr_X5_told e5))
theorem fr_X11_log {l0 l1 l2 : Int} {h : zH} {r : Int} {h' : zH} (hF : F_X11_log l0 l1 l2 h = some (r, h')) : FrR h h' := f_X11_log_0 hF
