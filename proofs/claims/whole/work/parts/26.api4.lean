/-- one PART more: n is its number -/
def zPn (n : Int) (hc hc' : zH) : Prop := zFx [6, 27, 34, 35] [(3, 1)] hc hc' ∧ (∀ i j, j ≠ n → gt hc' 27 i j = gt hc 27 i j) ∧ (∀ i j, i ≠ n → gt hc' 6 i j = gt hc 6 i j) ∧ (∀ i j, i ≠ n → gt hc' 34 i j = gt hc 34 i j) ∧ (∀ i j, i ≠ n → gt hc' 35 i j = gt hc 35 i j)
def zPr (n : Int) (hr hr' : zH) : Prop := zFx [50, 51, 52] [(12, 0)] hr hr' ∧ (∀ i j, j ≠ n → gt hr' 50 i j = gt hr 50 i j) ∧ (∀ i j, j ≠ n → gt hr' 51 i j = gt hr 51 i j) ∧ (∀ i j, j ≠ n → gt hr' 52 i j = gt hr 52 i j)
theorem zPn.k {n : Int} {hc hc' : zH} (x : zPn n hc hc') (c : Nat) (h : ([6, 27, 34, 35, 3] : List Nat).contains c = false) : gt hc' c = gt hc c := by
  funext i j
  simp at h
  exact x.1 c j (by simp [h]) (by simp [h]) i
theorem zPr.k {n : Int} {hr hr' : zH} (x : zPr n hr hr') (c : Nat) (h : ([50, 51, 52, 12] : List Nat).contains c = false) : gt hr' c = gt hr c := by
  funext i j
  simp at h
  exact x.1 c j (by simp [h]) (by simp [h]) i
theorem SC.part {n : Int} {hc hc' : zH} (x : zPn n hc hc') (k : SC hc) (hn : gt hc 3 0 1 = n) (v8 : gt hc' 3 0 1 = n + 1) (v : gt hc' 27 0 n = n ∧ gt hc' 6 n 0 = n ∧ gt hc' 6 n 5 = n ∧ gt hc' 6 n 6 = n) (c1 : cn hc' 6 = n + 1) (c2 : cn hc' 34 = n + 1) (c3 : cn hc' 35 = n + 1) (c4 : ∀ c, c ≠ 6 → c ≠ 34 → c ≠ 35 → cn hc' c = cn hc c) : SC hc' := by
  unfold SC
  rw [x.k 39 rfl, x.k 1 rfl, x.k 40 rfl, x.k 41 rfl, x.k 42 rfl, x.k 11 rfl, x.k 49 rfl, x.k 10 rfl, v8, c1, c2, c3, c4 10 (by decide) (by decide) (by decide), c4 43 (by decide) (by decide) (by decide), c4 44 (by decide) (by decide) (by decide), c4 45 (by decide) (by decide) (by decide), c4 46 (by decide) (by decide) (by decide), c4 47 (by decide) (by decide) (by decide), c4 48 (by decide) (by decide) (by decide)]
  refine ⟨k.1, k.2.1, k.2.2.1, fun p h1 h2 => ?_, k.2.2.2.2.1, k.2.2.2.2.2.1, k.2.2.2.2.2.2.1, rfl, rfl, rfl, k.2.2.2.2.2.2.2.2.2.2⟩
  by_cases z : p = n
  · rw [z]; exact v
  · rw [x.2.1 _ _ z, x.2.2.1 _ _ z, x.2.2.1 _ _ z, x.2.2.1 _ _ z]
    exact k.2.2.2.1 p h1 (by clear v c1 c2 c3; omega)
theorem RP.part {n a b : Int} {hc hc' hr hr' : zH} (x : zPn n hc hc') (y : zPr n hr hr') (k : RP hc hr) (hn : gt hc 3 0 1 = n) (cf : n < 60) (cb : 0 ≤ b ∧ b ≤ 100000) (v8 : gt hc' 3 0 1 = n + 1) (v : gt hc' 6 n 1 = a ∧ gt hc' 6 n 2 = b ∧ gt hc' 6 n 3 = 0) (w : gt hr' 50 0 n = a ∧ gt hr' 51 0 n = b ∧ gt hr' 52 0 n = 0 ∧ gt hr' 12 0 0 = n + 1) : RP hc' hr' := by
  have h0 : 0 ≤ n := by rw [← hn]; exact k.2.1
  unfold RP
  rw [v8, w.2.2.2]
  refine ⟨rfl, by clear v w v8; omega, by clear v w v8; omega, fun p h1 h2 => ?_⟩
  by_cases z : p = n
  · rw [z, v.1, v.2.1, v.2.2, w.1, w.2.1, w.2.2.1]
    exact ⟨rfl, rfl, rfl, cb.1, cb.2, by decide, by decide⟩
  · rw [x.2.2.1 _ _ z, x.2.2.1 _ _ z, x.2.2.1 _ _ z, y.2.1 _ _ z, y.2.2.1 _ _ z, y.2.2.2 _ _ z]
    exact k.2.2.2 p h1 (by clear v w v8; omega)
theorem RC.part {n : Int} {hc hc' hr hr' : zH} (x : zPn n hc hc') (y : zPr n hr hr') (k : RC hc hr) (hn : gt hr 12 0 0 = n) (w : gt hr' 12 0 0 = n + 1) : RC hc' hr' := by
  obtain ⟨k1, k2, k3, k4, k5⟩ := k
  have f3 : gt hc' 3 0 3 = gt hc 3 0 3 := x.1 3 3 (by decide) (by decide) 0
  have r4 : gt hr' 12 0 4 = gt hr 12 0 4 := y.1 12 4 (by decide) (by decide) 0
  unfold RC
  rw [f3, r4, w, x.k 28 rfl, y.k 53 rfl]
  refine ⟨k1, k2, by omega, fun i h1 h2 => ?_, k5⟩
  obtain ⟨m1, m2, m3, m4⟩ := k4 i h1 h2
  have mn : gt hr 53 0 i ≠ n := by omega
  rw [y.2.2.2 _ _ mn]
  exact ⟨m1, m2, by omega, m4⟩
theorem RK.part {n : Int} {hc hc' hr hr' : zH} (x : zPn n hc hc') (y : zPr n hr hr') (k : RK hc hr) (hn : gt hr 12 0 0 = n) (w : gt hr' 12 0 0 = n + 1) (w3 : gt hr' 52 0 n = 0) : RK hc' hr' := by
  obtain ⟨l1, l2, l3, l4, l5, l6⟩ := k
  have f3 : gt hc' 3 0 5 = gt hc 3 0 5 := x.1 3 5 (by decide) (by decide) 0
  have r4 : gt hr' 12 0 62 = gt hr 12 0 62 := y.1 12 62 (by decide) (by decide) 0
  unfold RK
  rw [f3, r4, w, x.k 29 rfl, y.k 89 rfl, y.k 90 rfl, y.k 91 rfl, y.k 92 rfl]
  refine ⟨l1, l2, by omega, fun i h1 h2 => ?_, l5, fun p h1 h2 h3 => ?_⟩
  · obtain ⟨m1, m2, m3, m4, m5, m6, m7, m8, m9, m10, m11⟩ := l4 i h1 h2
    have mn : gt hr 89 0 i ≠ n := by clear m4 m5 m6 m7 m8 m9 m10; omega
    rw [y.2.2.2 _ _ mn, x.2.2.1 _ _ mn, x.2.2.1 _ _ mn]
    refine ⟨m1, m2, by clear m4 m5 m6 m7 m8 m9 m10; omega, m4, m5, m6, m7, m8, m9, m10, fun k x1 y1 => ?_⟩
    rw [x.2.2.2.1 _ _ mn, x.2.2.2.2 _ _ mn]
    exact m11 k x1 y1
  · by_cases zn : p = n
    · rw [zn, w3] at h3; cases h3
    · rw [y.2.2.2 _ _ zn] at h3
      exact l6 p h1 (by omega) h3
theorem rel_part {N a b n : Int} {hc hr hc' hr' : zH} (R : Rel N hc hr) (hN : 0 ≤ N) (hn : gt hc 3 0 1 = n) (cf : n < 60) (cb : 0 ≤ b ∧ b ≤ 100000) (x : zPn n hc hc') (y : zPr n hr hr')
    (v : gt hc' 27 0 n = n ∧ gt hc' 6 n 0 = n ∧ gt hc' 6 n 5 = n ∧ gt hc' 6 n 6 = n) (v' : gt hc' 6 n 1 = a ∧ gt hc' 6 n 2 = b ∧ gt hc' 6 n 3 = 0) (v8 : gt hc' 3 0 1 = n + 1)
    (w : gt hr' 50 0 n = a ∧ gt hr' 51 0 n = b ∧ gt hr' 52 0 n = 0 ∧ gt hr' 12 0 0 = n + 1)
    (c1 : cn hc' 6 = n + 1) (c2 : cn hc' 34 = n + 1) (c3 : cn hc' 35 = n + 1) (c4 : ∀ c, c ≠ 6 → c ≠ 34 → c ≠ 35 → cn hc' c = cn hc c) : Rel (N + 1) hc' hr' := by
  obtain ⟨a1, a2, a3, a4, a5, a6, a7, a8, a9, a10, a11, a12⟩ := R
  have hn2 : gt hr 12 0 0 = n := a5.1.trans hn
  exact ⟨a1.fr x.1 rfl, a2.fr y.1 rfl, a3.fr x.1 rfl, a4.part x hn v8 v c1 c2 c3 c4, a5.part x y hn cf cb v8 v' w, a6.part x y hn2 w.2.2.2, a7.fr x.1 rfl y.1 rfl, (a8.fr x.1 rfl y.1 rfl).up (by clear v v' w v8; omega), a9.fr x.1 rfl y.1 rfl, a10.fr x.1 rfl y.1 rfl, a11.fr x.1 rfl y.1 rfl, a12.part x y hn2 w.2.2.2 w.2.2.1⟩
theorem ap_part (a b : Int) : Ap (F_X11_part 0 a b) (F_X12_part 0 a b) := fun N hc hr h0 h1 R => by
  have R' := R
  obtain ⟨a1, a2, a3, a4, a5, a6, a7, a8, a9, a10, a11, a12⟩ := R
  have a5' := a5
  obtain ⟨p1, p2, p3, p4⟩ := a5'
  by_cases ca : 0 ≤ a ∧ a < 40
  · by_cases cb : 0 ≤ b ∧ b ≤ 100000
    · have b1 : ¬ b < 0 := by omega
      have ca' : a ≤ 39 := by omega
      by_cases cf : gt hc 3 0 1 < 60
      · obtain ⟨s1, s2, s3, s4, s5, s6, s7, s8, s9, s10, s11⟩ := a4
        obtain ⟨n, hn⟩ : ∃ n, n = gt hc 3 0 1 := ⟨_, rfl⟩
        have e1 : wI (n + 1) = n + 1 := wI_eq ⟨by omega, by omega⟩
        have e2 : wI n = n := wI_eq ⟨by omega, by omega⟩
        rw [← hn] at p1 p2 p3 p4 s4 s8 s9 s10 cf
        have z60 : ¬ n = 60 := by omega
        have hd3 : zdf 6 3 = 0 := rfl
        have hgn : ∀ j, (j = 0 ∨ j = 1 ∨ j = 2 ∨ j = 5 ∨ j = 6) → True := fun _ _ => trivial
        refine ⟨n, pt (pt (pt (nw (pt (nw (pt (pt (pt (nw hc 6 8) 6 n 0 n) 6 n 1 a) 6 n 2 b) 34 10) 6 n 5 n) 35 10) 6 n 6 n) 27 0 n n) 3 0 1 (n + 1), pt (pt (pt (pt hr 50 0 n a) 51 0 n b) 52 0 n 0) 12 0 0 (n + 1), ?_, ?_, ?_, ?_, ?_⟩
        · unfold F_X11_part F_X11_part_0 F_X3_takeIn F_X3_takeIn_0 F_X6_init F_X6_init_0
          simp only [pc_11_0 a1, s_within, zb, zl]
          simp [ca, b1, cb.2, ← hn, p2, cf, cn_pt, cn_nw, gt_pt, gt_nw, s8, s9, s10, pc_3_0 a1, e1, e2]
        · unfold F_X12_part F_X12_part_0
          simp only [s_in, zb, zl]
          simp [ca, ca', cb, p1, z60, p2, cf, gt_pt, pr_1 a2, pr_2 a2, pr_3 a2, e1, e2]
        · refine rel_part (a := a) (b := b) (n := n) R' h0 hn.symm cf cb ⟨?_, ?_, ?_, ?_, ?_⟩ ⟨?_, ?_, ?_, ?_⟩ ⟨?_, ?_, ?_, ?_⟩ ⟨?_, ?_, ?_⟩ ?_ ⟨?_, ?_, ?_, ?_⟩ ?_ ?_ ?_ ?_
          · exact (((((((((((zFx.rf hc).n1 rfl).p1 rfl).p1 rfl).p1 rfl).n1 rfl).p1 rfl).n1 rfl).p1 rfl).p1 rfl).p2 rfl)
          all_goals try (simp [gt_pt, gt_nw, cn_pt, cn_nw, s8, s9, s10, hd3]; done)
          all_goals try (intro i j h; simp [gt_pt, gt_nw, cn_pt, cn_nw, s8, s9, s10, h]; done)
          · exact ((((zFx.rf hr).p1 rfl).p1 rfl).p1 rfl).p2 rfl
          · intro c c6 c34 c35
            simp [cn_pt, cn_nw, c6, c34, c35]
        · show nn hc + 1 + 1 + 1 ≤ _
          omega
        · show us hc + 8 + 10 + 10 ≤ _
          omega
      · refine ⟨-104, hc, hr, ?_, ?_, R'.up, by omega, by omega⟩
        · unfold F_X11_part F_X11_part_0 F_X3_takeIn F_X3_takeIn_0
          simp only [pc_11_0 a1, s_within, zb, zl]
          simp [ca, b1, cb.2, cf]
        · unfold F_X12_part F_X12_part_0
          have z60 : gt hc 3 0 1 = 60 := by omega
          simp only [s_in, zb, zl]
          simp [ca, ca', cb, p1, z60]
    · refine ⟨-102, hc, hr, ?_, ?_, R'.up, by omega, by omega⟩
      · unfold F_X11_part F_X11_part_0
        simp only [s_within, zb]
        by_cases b1 : b < 0
        · simp [ca, b1]
        · have b2 : ¬ b ≤ 100000 := by omega
          simp [ca, b1, b2]
      · unfold F_X12_part F_X12_part_0
        have ca' : a ≤ 39 := by omega
        simp only [s_in, zb]
        simp [ca, ca', cb]
  · refine ⟨-102, hc, hr, ?_, ?_, R'.up, by omega, by omega⟩
    · unfold F_X11_part F_X11_part_0
      simp only [s_within, zb]
      simp [ca]
    · unfold F_X12_part F_X12_part_0
      have ca' : ¬ (0 ≤ a ∧ a ≤ 39) := by omega
      simp only [s_in, zb]
      simp [ca']
