/-- the index in the older row -/
abbrev zSh (i k : Int) : Int := if k < i then k else k + 1
theorem RK.less {hc hr hc' hr' : zH} {i p : Int} (k : RK hc hr) (i0 : 0 ≤ i) (i1 : i < gt hr 12 0 62) (hp : p = gt hr 89 0 i)
    (e12 : gt hr' 12 0 0 = gt hr 12 0 0) (e62 : gt hr' 12 0 62 = gt hr 12 0 62 - 1) (e35 : gt hc' 3 0 5 = gt hc 3 0 5 - 1) (so : ∀ q, q ≠ p → gt hr' 52 0 q = gt hr 52 0 q) (sp : gt hr' 52 0 p ≠ 1)
    (H : ∀ k, 0 ≤ k → k < gt hr 12 0 62 - 1 → gt hc' 29 0 k = gt hc 29 0 (zSh i k) ∧ gt hr' 89 0 k = gt hr 89 0 (zSh i k) ∧ gt hr' 90 0 k = gt hr 90 0 (zSh i k) ∧ gt hr' 91 0 k = gt hr 91 0 (zSh i k) ∧ ∀ x, 0 ≤ x → x < 20 → gt hr' 92 0 (20 * k + x) = gt hr 92 0 (20 * zSh i k + x))
    (f4 : ∀ q, gt hc' 6 q 4 = gt hc 6 q 4 ∧ gt hc' 6 q 7 = gt hc 6 q 7) (f34 : gt hc' 34 = gt hc 34) (f35 : gt hc' 35 = gt hc 35) : RK hc' hr' := by
  obtain ⟨k1, k2, k3, k4, k5, k6⟩ := k
  have sh : ∀ k, 0 ≤ k → k < gt hr 12 0 62 - 1 → 0 ≤ zSh i k ∧ zSh i k < gt hr 12 0 62 ∧ zSh i k ≠ i := fun k a b => by
    by_cases z : k < i
    · rw [show zSh i k = k from if_pos z]; omega
    · rw [show zSh i k = k + 1 from if_neg z]; omega
  have ne : ∀ k, 0 ≤ k → k < gt hr 12 0 62 → k ≠ i → gt hr 89 0 k ≠ p := fun k a b c => by
    rw [hp]
    by_cases z : k < i
    · exact k5 k i a z i1
    · exact fun y => k5 i k i0 (by omega) b y.symm
  unfold RK
  rw [e12, e62, e35, f34, f35]
  refine ⟨by omega, by omega, by omega, fun k a b => ?_, fun k j a b c => ?_, fun q a b c => ?_⟩
  · obtain ⟨s1, s2, s3⟩ := sh k a b
    obtain ⟨h1, h2, h3, h4, h5⟩ := H k a b
    obtain ⟨w1, w2, w3, w4, w5, w6, w7, w8, w9, w10, w11⟩ := k4 (zSh i k) s1 s2
    rw [h1, h2, h3, h4, (f4 _).1, (f4 _).2, so _ (ne _ s1 s2 s3)]
    refine ⟨w1, w2, w3, w4, w5, w6, w7, w8, w9, w10, fun t u v => ?_⟩
    have v1 : 2 * t < 20 := by omega
    have v2 : 2 * t + 1 < 20 := by omega
    rw [Int.add_assoc, h5 (2 * t) (by omega) v1, h5 (2 * t + 1) (by omega) v2, ← Int.add_assoc]
    exact w11 t u v
  · rw [(H k a (by omega)).2.1, (H j (by omega) c).2.1]
    refine k5 _ _ (sh k a (by omega)).1 ?_ (sh j (by omega) c).2.1
    by_cases z : j < i
    · rw [show zSh i j = j from if_pos z, show zSh i k = k from if_pos (by omega)]; exact b
    · rw [show zSh i j = j + 1 from if_neg z]
      by_cases y : k < i
      · rw [show zSh i k = k from if_pos y]; omega
      · rw [show zSh i k = k + 1 from if_neg y]; omega
  · by_cases z : q = p
    · rw [z] at c; exact absurd c sp
    · rw [so q z] at c
      obtain ⟨j, x1, x2, x3⟩ := k6 q a b c
      have ji : j ≠ i := fun y => z (by rw [hp, ← y, x3])
      by_cases y : j < i
      · refine ⟨j, x1, by omega, ?_⟩
        rw [(H j x1 (by omega)).2.1, show zSh i j = j from if_pos y]; exact x3
      · refine ⟨j - 1, by omega, by omega, ?_⟩
        rw [(H (j - 1) (by omega) (by omega)).2.1, show zSh i (j - 1) = j by rw [show zSh i (j - 1) = j - 1 + 1 from if_neg (by omega)]; omega]; exact x3
theorem ap_giveBack (i : Int) : Ap (F_X11_giveBack 0 i) (F_X12_giveBack_ 0 i) := fun N hc hr h0 h1 R => by
  have R' := R
  obtain ⟨a1, a2, a3, a4, a5, a6, a7, a8, a9, a10, a11, a12⟩ := R
  have a5' := a5
  obtain ⟨p1, p2, p3, p4⟩ := a5'
  have a12' := a12
  obtain ⟨k1, k2, k3, k4, k5, k6⟩ := a12'
  have m60 : gt hr 12 0 62 ≤ 60 := by omega
  have h560 : gt hc 3 0 5 ≤ 60 := by omega
  by_cases c : 0 ≤ i ∧ i < gt hc 3 0 5
  · obtain ⟨p, hp⟩ : ∃ p, p = gt hr 89 0 i := ⟨_, rfl⟩
    obtain ⟨x1, x2, x3, x4, x5, x6, x7, x8⟩ := k4 i c.1 (by omega)
    rw [← hp] at x1 x2 x3 x4 x5
    have f1 := a4.2.2.2.1 p x2 (by omega)
    have hN : 200 * N ≤ 1000000 := by omega
    have ci : i < gt hr 12 0 62 := by omega
    have c60 : 0 ≤ i ∧ i < 60 := by omega
    have rm : -2147483648 ≤ gt hr 12 0 62 - 1 ∧ gt hr 12 0 62 - 1 < 2147483648 := by omega
    obtain ⟨r, hc', hr1, t1, t2, t3, t4, t5, t6, t7, t8, t9, t10, t11, t12, t13, t14, t15, t16⟩ := tb_core (how := 3) (i0 := i) a1 a2 a5 a6 a7 a8 a9 hN x2 x3 f1.2.1 x4 x5 ⟨x6, x7⟩ c.1 ⟨k2, h560⟩ (fun k q1 q2 => by
      rw [(k4 k q1 (by omega)).1, hp]
      constructor
      · intro z
        refine Classical.byContradiction fun y => ?_
        by_cases w : k < i
        · exact k5 k i q1 w ci z
        · exact k5 i k c.1 (by omega) (by omega) z.symm
      · intro z; rw [z])
    have u62 : gt hr1 12 0 62 = gt hr 12 0 62 := t5 12 62 (by decide) (by decide) 0
    obtain ⟨hr2, hY⟩ : ∃ hr2, hr2 = pt hr1 12 0 62 (gt hr 12 0 62 - 1) := ⟨_, rfl⟩
    have y62 : gt hr2 12 0 62 = gt hr 12 0 62 - 1 := by rw [hY]; rfl
    have yx : zFx [] [(12, 62)] hr1 hr2 := by rw [hY]; exact (zFx.rf hr1).p2 rfl
    have yn : FrN hr1 hr2 := by rw [hY]; exact frpN (frrN hr1)
    have hz := zF_i
    have d2 : PIr hr2 := (a2.fr t5 rfl).fr yx rfl
    obtain ⟨hr', w1, w2, w3, w4, w5⟩ := r_49 (l2 := r) zF i hr2 c.1 (by omega) (by omega) (by omega) d2
    rw [y62] at w4 w5
    have yy : zFx [89, 90, 91, 92] [(12, 62)] hr1 hr' := (yx.wk rfl rfl).tr (w2.wk rfl rfl)
    have yh : zFx [52, 53, 54, 55, 56, 57, 58, 59, 60, 61, 89, 90, 91, 92] [(12, 4), (12, 6), (12, 12), (12, 62)] hr hr' := (t5.wk rfl rfl).tr (yy.wk rfl rfl)
    have xc : zFx [] [] hc' hc' := zFx.rf hc'
    have ec : F_X11_giveBack 0 i hc = some (if r = 0 then 1 else 0, hc') := by
      unfold F_X11_giveBack F_X11_giveBack_0
      have g1 : gt hc 29 0 i = p := x1
      have g2 : 0 ≤ p ∧ p < gt hc 3 0 1 := ⟨x2, by omega⟩
      have g3 : ¬ p = -1 := by omega
      simp only [pc_11_0 a1, s_findHeld a1 p3 h560, zb, if_pos c, g1, if_pos g2, f1.1]
      rcases t3 with z | z
      · simp [g3, t1, z]
      · simp [g3, t1, z]
    have er : F_X12_giveBack_ 0 i hr = some (if r = 0 then 1 else 0, hr') := by
      unfold F_X12_giveBack_ F_X12_giveBack__0
      have g1 : 0 ≤ i ∧ i ≤ gt hr 12 0 62 - 1 := ⟨c.1, by omega⟩
      have g2 := wI_eq rm
      simp only [s_in, zb, wI_eq rm, if_pos g1, pr_63 a2, pr_64 a2, ← hp, t2, u62]
      rw [← hY, w1]
      simp [c60]
    refine ⟨if r = 0 then 1 else 0, hc', hr', ec, er, ⟨a1.fr t4 rfl, a2.fr yh rfl, a3.fr t4 rfl, a4.fr t4 rfl t6.1, t8.fr xc rfl yy rfl, t9.fr xc rfl yy rfl, t10.fr xc rfl yy rfl, (t11.fr xc rfl yy rfl).up (by omega), t12.fr xc rfl yy rfl, a10.fr t4 rfl yh rfl, a11.fr t4 rfl yh rfl, ?_⟩, by rw [t6.nn]; omega, by rw [t6.us]; omega⟩
    clear ec er w1 t1 t2 hY yn w3
    refine RK.less (i := i) (p := p) a12 c.1 ci hp (yh 12 0 (by decide) (by decide) 0) ?_ ?_ (fun q z => ?_) ?_ (fun k q1 q2 => ?_) (fun q => ⟨t4 6 4 (by decide) (by decide) q, t4 6 7 (by decide) (by decide) q⟩) ?_ ?_
    · rw [w2 12 62 (by decide) (by simp) 0]; exact y62
    · rw [t15, if_pos c.2]
    · rw [yy 52 q (by decide) (by simp) 0]; exact t13 q z
    · rw [yy 52 p (by decide) (by simp) 0]
      rcases t14 with z | z <;> rw [z] <;> decide
    · obtain ⟨v1, v2, v3⟩ := w4 k
      have o : ∀ (x : Int), gt hr2 89 0 x = gt hr 89 0 x ∧ gt hr2 90 0 x = gt hr 90 0 x ∧ gt hr2 91 0 x = gt hr 91 0 x ∧ gt hr2 92 0 x = gt hr 92 0 x := fun x =>
        ⟨(yx 89 x (by decide) (by simp) 0).trans (t5 89 x (by decide) (by simp) 0), (yx 90 x (by decide) (by simp) 0).trans (t5 90 x (by decide) (by simp) 0), (yx 91 x (by decide) (by simp) 0).trans (t5 91 x (by decide) (by simp) 0), (yx 92 x (by decide) (by simp) 0).trans (t5 92 x (by decide) (by simp) 0)⟩
      have v5 : gt hc' 29 0 k = if k < i then gt hc 29 0 k else gt hc 29 0 (k + 1) := t16 k q1 (by rw [t15, if_pos c.2]; omega)
      rw [v1, v2, v3, v5, (o k).1, (o k).2.1, (o k).2.2.1, (o (k + 1)).1, (o (k + 1)).2.1, (o (k + 1)).2.2.1]
      by_cases z : k < i
      · have z2 : ¬ (i ≤ k ∧ k < gt hr 12 0 62 - 1) := by omega
        simp only [if_pos z, if_neg z2]
        refine ⟨trivial, trivial, trivial, trivial, fun x u1 u2 => ?_⟩
        rw [w5 (20 * k + x), if_neg (by clear w4 w5 v1 v2 v3 v5 t16 k4 k5 k6 p4 o; omega), (o _).2.2.2]
      · have z2 : i ≤ k ∧ k < gt hr 12 0 62 - 1 := by omega
        simp only [if_neg z, if_pos z2]
        refine ⟨trivial, trivial, trivial, trivial, fun x u1 u2 => ?_⟩
        rw [w5 (20 * k + x), if_pos (by clear w4 w5 v1 v2 v3 v5 t16 k4 k5 k6 p4 o; omega), (o _).2.2.2, show 20 * k + x + 20 = 20 * (k + 1) + x by clear w4 w5 v1 v2 v3 v5 t16 k4 k5 k6 p4 o; omega]
    · funext a b; exact t4 34 b (by decide) (by simp) a
    · funext a b; exact t4 35 b (by decide) (by simp) a
  · refine ⟨-101, hc, hr, ?_, ?_, R'.up, by omega, by omega⟩
    · unfold F_X11_giveBack F_X11_giveBack_0
      simp only [pc_11_0 a1, s_findHeld a1 p3 h560, zb]
      simp [c]
    · unfold F_X12_giveBack_ F_X12_giveBack__0
      simp only [s_in, zb]
      rw [wI_eq ⟨by omega, by omega⟩]
      have c4 : ¬ (0 ≤ i ∧ i ≤ gt hr 12 0 62 - 1) := by omega
      simp [c4]
