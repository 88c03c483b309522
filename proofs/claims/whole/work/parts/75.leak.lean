/-! LEAKS, gathered when a RUN is over -/
theorem r_gin {c l u : Int} {ag : Int → Int → Int → zH → zO} (l0 : 0 ≤ l) (l1 : l < 160) (u0 : 0 ≤ u) (u1 : u < 60) : ∀ (d f : Nat) (k : Int) (h : zH), k + d = 20 → 0 ≤ k → d < f → PIr h → gt h 12 0 62 = u →
    ∃ h', F_X12_run_229 ag f 0 c l k h = ag 0 c (l + 1) h' ∧ zFx [92] [(12, 62)] h h' ∧ FrN h h' ∧ gt h' 12 0 62 = u + 1 ∧ ∀ j, gt h' 92 0 j = if 20 * u + k ≤ j ∧ j < 20 * u + 20 then gt h 82 0 (20 * l + (j - 20 * u)) else gt h 92 0 j
  | d, 0, k, h, _, _, hf, _, _ => by omega
  | 0, f + 1, k, h, hk, k0, hf, a2, e => by
    have r1 : -1000000 ≤ u + 1 ∧ u + 1 ≤ 1000000 := by omega
    have r2 : -1000000 ≤ l + 1 ∧ l + 1 ≤ 1000000 := by omega
    have k20 : 20 ≤ k := by omega
    refine ⟨pt h 12 0 62 (u + 1), ?_, (zFx.rf h).p2 rfl, frpN (frrN h), rfl, fun j => ?_⟩
    · show F_X12_run_229b ag (F_X12_run_229 ag f) 0 c l k h = _
      unfold F_X12_run_229b
      rw [if_pos k20, if_pos (Int.le_refl 0), e, wI_s r1, wI_s r2]
    · have n : ¬ (20 * u + k ≤ j ∧ j < 20 * u + 20) := by omega
      rw [if_neg n]; rfl
  | d + 1, f + 1, k, h, hk, k0, hf, a2, e => by
    have r1 : -1000000 ≤ 20 * l ∧ 20 * l ≤ 1000000 := by omega
    have r2 : -1000000 ≤ 20 * l + k ∧ 20 * l + k ≤ 1000000 := by omega
    have r3 : -1000000 ≤ 20 * u ∧ 20 * u ≤ 1000000 := by omega
    have r4 : -1000000 ≤ 20 * u + k ∧ 20 * u + k ≤ 1000000 := by omega
    have r5 : -1000000 ≤ k + 1 ∧ k + 1 ≤ 1000000 := by omega
    have b1 : 0 ≤ 20 * l + k ∧ 20 * l + k < 3600 := by omega
    have b2 : 0 ≤ 20 * u + k ∧ 20 * u + k < 1200 := by omega
    have k20 : ¬ 20 ≤ k := by omega
    obtain ⟨h1, hh⟩ : ∃ h1, h1 = pt h 92 0 (20 * u + k) (gt h 82 0 (20 * l + k)) := ⟨_, rfl⟩
    have x1 : zFx [92] [] h h1 := by rw [hh]; exact (zFx.rf h).p1 rfl
    have n1 : FrN h h1 := by rw [hh]; exact frpN (frrN h)
    obtain ⟨h', g1, g2, g3, g4, g5⟩ := r_gin l0 l1 u0 u1 (ag := ag) (c := c) d f (k + 1) h1 (by omega) (by omega) (by omega) (a2.fr x1 rfl) ((x1 12 62 (by simp) (by simp) 0).trans e)
    refine ⟨h', ?_, (x1.wk rfl rfl).tr g2, n1.tr g3, g4, fun j => ?_⟩
    · show F_X12_run_229b ag (F_X12_run_229 ag f) 0 c l k h = _
      unfold F_X12_run_229b
      rw [if_neg k20, if_pos (Int.le_refl 0), pr_42 a2, if_pos (Int.le_refl 0), wI_s r1, wI_s r2, if_pos b1, pr_66 a2, if_pos (Int.le_refl 0), e, wI_s r3, wI_s r4, if_pos b2, wI_s r5, ← hh]
      exact g1
    · rw [g5 j, x1 82 _ (by simp) (by simp) 0]
      by_cases q1 : 20 * u + (k + 1) ≤ j ∧ j < 20 * u + 20
      · have q2 : 20 * u + k ≤ j ∧ j < 20 * u + 20 := by omega
        rw [if_pos q1, if_pos q2]
      · rw [if_neg q1, hh, gt_pt]
        by_cases q3 : j = 20 * u + k
        · have q2 : 20 * u + k ≤ j ∧ j < 20 * u + 20 := by omega
          have q4 : (92 = 92 ∧ (0 : Int) = 0 ∧ j = 20 * u + k) := ⟨rfl, rfl, q3⟩
          rw [if_pos q2, if_pos q4, show 20 * l + (j - 20 * u) = 20 * l + k by omega]
        · have q2 : ¬ (20 * u + k ≤ j ∧ j < 20 * u + 20) := by omega
          have q4 : ¬ (92 = 92 ∧ (0 : Int) = 0 ∧ j = 20 * u + k) := fun v => q3 v.2.2
          rw [if_neg q2, if_neg q4]
/-- how far the LEAKS are gathered -/
def GA (c : Int) (i : Nat) (h0 h : zH) : Prop := zFx [89, 90, 91, 92] [(12, 62)] h0 h ∧ FrN h0 h ∧ gt h 12 0 62 = gt h0 12 0 62 + zLc h0 i ∧
  (∀ j : Int, 0 ≤ j → j < gt h0 12 0 62 → gt h 89 0 j = gt h0 89 0 j ∧ gt h 90 0 j = gt h0 90 0 j ∧ gt h 91 0 j = gt h0 91 0 j ∧ ∀ k : Int, 0 ≤ k → k < 20 → gt h 92 0 (20 * j + k) = gt h0 92 0 (20 * j + k)) ∧
  ∀ l : Nat, l < i → gt h0 80 0 l = 1 → gt h0 76 0 l = 1 → gt h 89 0 (gt h0 12 0 62 + zLc h0 l) = gt h0 75 0 l ∧ gt h 90 0 (gt h0 12 0 62 + zLc h0 l) = c ∧ gt h 91 0 (gt h0 12 0 62 + zLc h0 l) = gt h0 81 0 l ∧ ∀ k : Int, 0 ≤ k → k < 20 → gt h 92 0 (20 * (gt h0 12 0 62 + zLc h0 l) + k) = gt h0 82 0 (20 * l + k)
theorem zLc_s (h : zH) (n : Nat) : zLc h (n + 1) = zLc h n + zLg h n := rfl
theorem zLg_nn (h : zH) (j : Int) : 0 ≤ zLg h j := by unfold zLg; split <;> decide
theorem zLc_mo {h : zH} {m n : Nat} (a : m ≤ n) : zLc h m ≤ zLc h n := zSum_mo (zLg_nn h) n a
theorem r_gather {c : Int} {n : Nat} {h0 : zH} (a2 : PIr h0) (e34 : gt h0 12 0 34 = n) (n160 : n ≤ 160) (u0 : 0 ≤ gt h0 12 0 62) (u60 : gt h0 12 0 62 + zLc h0 n ≤ 60) (bin : ∀ l : Int, 0 ≤ l → l < n → gt h0 80 0 l = 0 ∨ gt h0 80 0 l = 1) :
    ∀ (d f i : Nat) (h : zH), i + d = n → d < f → GA c i h0 h → ∃ h', F_X12_run_159 f 0 c i h = some (gt h0 12 0 54, h') ∧ GA c n h0 h'
  | d, 0, i, h, _, hf, _ => by omega
  | 0, f + 1, i, h, hi, hf, G => by
    have hi' : i = n := by omega
    subst hi'
    obtain ⟨g1, g2, g3, g4, g5⟩ := id G
    refine ⟨h, ?_, G⟩
    show F_X12_run_159b (F_X12_run_159 f) 0 c i h = _
    have y : gt h 12 0 34 ≤ (i : Int) := by rw [g1 12 34 (by simp) (by decide) 0, e34]; exact Int.le_refl _
    unfold F_X12_run_159b
    rw [if_pos (Int.le_refl 0), if_pos y, g1 12 54 (by simp) (by decide) 0]
  | d + 1, f + 1, i, h, hi, hf, G => by
    have hz := zF_i
    obtain ⟨g1, g2, g3, g4, g5⟩ := id G
    have il : i < n := by omega
    have d2 : PIr h := a2.fr g1 rfl
    have ni : ¬ gt h 12 0 34 ≤ (i : Int) := by rw [g1 12 34 (by simp) (by decide) 0, e34]; omega
    have ib : 0 ≤ (i : Int) ∧ (i : Int) < 180 := by omega
    have ri : -1000000 ≤ (i : Int) + 1 ∧ (i : Int) + 1 ≤ 1000000 := by omega
    have e80 : gt h 80 0 i = gt h0 80 0 i := g1 80 _ (by simp) (by simp) 0
    have e76 : gt h 76 0 i = gt h0 76 0 i := g1 76 _ (by simp) (by simp) 0
    have st : F_X12_run_159 (f + 1) 0 c i h = F_X12_run_159b (F_X12_run_159 f) 0 c i h := rfl
    by_cases o : gt h0 80 0 i = 1 ∧ gt h0 76 0 i = 1
    · -- one more
      have lg : zLg h0 i = 1 := if_pos o
      have up : zLc h0 (i + 1) = zLc h0 i + 1 := by rw [zLc_s, lg]
      have mo : zLc h0 (i + 1) ≤ zLc h0 n := zLc_mo (show i + 1 ≤ n from il)
      have z0 : 0 ≤ zLc h0 i := zLc_mo (h := h0) (m := 0) (n := i) (Nat.zero_le _)
      obtain ⟨u, hu⟩ : ∃ u, u = gt h0 12 0 62 + zLc h0 i := ⟨_, rfl⟩
      rw [← hu] at g3
      have ub : 0 ≤ u ∧ u < 60 := by omega
      obtain ⟨h1, hh⟩ : ∃ h1, h1 = pt (pt (pt h 89 0 u (gt h0 75 0 i)) 90 0 u c) 91 0 u (gt h0 81 0 i) := ⟨_, rfl⟩
      have x1 : zFx [89, 90, 91] [] h h1 := by rw [hh]; exact (((zFx.rf h).p1 rfl).p1 rfl).p1 rfl
      have n1 : FrN h h1 := by rw [hh]; exact frpN (frpN (frpN (frrN h)))
      obtain ⟨h2, w1, w2, w3, w4, w5⟩ := r_gin (c := c) (l := i) (u := u) (ag := F_X12_run_159 f) (by omega) (by omega) ub.1 ub.2 20 zF 0 h1 (by decide) (Int.le_refl 0) (by omega) (d2.fr x1 rfl) ((x1 12 62 (by simp) (by simp) 0).trans g3)
      have X2 : zFx [89, 90, 91, 92] [(12, 62)] h h2 := (x1.wk rfl rfl).tr (w2.wk rfl rfl)
      have vv : ∀ j, gt h2 89 0 j = (if j = u then gt h0 75 0 i else gt h 89 0 j) ∧ gt h2 90 0 j = (if j = u then c else gt h 90 0 j) ∧ gt h2 91 0 j = (if j = u then gt h0 81 0 i else gt h 91 0 j) := fun j => by
        rw [w2 89 j (by simp) (by simp) 0, w2 90 j (by simp) (by simp) 0, w2 91 j (by simp) (by simp) 0, hh]
        by_cases q : j = u <;> simp [gt_pt, q]
      have v92 : ∀ j, gt h2 92 0 j = if 20 * u ≤ j ∧ j < 20 * u + 20 then gt h0 82 0 (20 * i + (j - 20 * u)) else gt h 92 0 j := fun j => by
        rw [w5 j, x1 82 _ (by simp) (by simp) 0, g1 82 _ (by simp) (by simp) 0, x1 92 _ (by simp) (by simp) 0, show 20 * u + 0 = 20 * u by omega]
      have G2 : GA c (i + 1) h0 h2 := by
        refine ⟨g1.tr X2, (g2.tr n1).tr w3, by rw [w4, up, hu]; omega, fun j j0 j1 => ?_, fun l li o1 o2 => ?_⟩
        · obtain ⟨s1, s2, s3, s4⟩ := g4 j j0 j1
          obtain ⟨t1, t2, t3⟩ := vv j
          have ne : ¬ j = u := by omega
          rw [t1, t2, t3, if_neg ne, if_neg ne, if_neg ne]
          refine ⟨s1, s2, s3, fun k k0 k1 => ?_⟩
          have q : ¬ (20 * u ≤ 20 * j + k ∧ 20 * j + k < 20 * u + 20) := by omega
          rw [v92, if_neg q]; exact s4 k k0 k1
        · by_cases e : l = i
          · subst e
            rw [← hu]
            obtain ⟨t1, t2, t3⟩ := vv u
            rw [t1, t2, t3, if_pos rfl, if_pos rfl, if_pos rfl]
            refine ⟨rfl, rfl, rfl, fun k k0 k1 => ?_⟩
            have q : 20 * u ≤ 20 * u + k ∧ 20 * u + k < 20 * u + 20 := by omega
            rw [v92, if_pos q, show 20 * u + k - 20 * u = k by omega]
          · have li' : l < i := by omega
            obtain ⟨s1, s2, s3, s4⟩ := g5 l li' o1 o2
            have ll : zLc h0 (l + 1) = zLc h0 l + 1 := by rw [zLc_s]; unfold zLg; rw [if_pos ⟨o1, o2⟩]
            have lm : zLc h0 (l + 1) ≤ zLc h0 i := zLc_mo (show l + 1 ≤ i from li')
            have lz : 0 ≤ zLc h0 l := zLc_mo (h := h0) (m := 0) (n := l) (Nat.zero_le _)
            obtain ⟨y, hy⟩ : ∃ y, y = gt h0 12 0 62 + zLc h0 l := ⟨_, rfl⟩
            rw [← hy] at s1 s2 s3 s4 ⊢
            obtain ⟨t1, t2, t3⟩ := vv y
            have ne : ¬ y = u := by omega
            rw [t1, t2, t3, if_neg ne, if_neg ne, if_neg ne]
            refine ⟨s1, s2, s3, fun k k0 k1 => ?_⟩
            have q : ¬ (20 * u ≤ 20 * y + k ∧ 20 * y + k < 20 * u + 20) := by omega
            rw [v92, if_neg q]; exact s4 k k0 k1
      obtain ⟨h', y1, y2⟩ := r_gather a2 e34 n160 u0 u60 bin d f (i + 1) h2 (by omega) (by omega) G2
      refine ⟨h', ?_, y2⟩
      have n80 : ¬ gt h 80 0 i = 0 := by rw [e80, o.1]; decide
      have n76 : ¬ (gt h 76 0 i ≠ 1) := by rw [e76]; simpa using o.2
      have t64 : gt (pt h 89 0 u (gt h 75 0 i)) 12 0 64 = 0 := pr_64 d2
      have t62 : gt (pt h 89 0 u (gt h 75 0 i)) 12 0 62 = u := g3
      have t41 : gt (pt (pt h 89 0 u (gt h 75 0 i)) 90 0 u c) 12 0 41 = 0 := pr_41 d2
      have t65 : gt (pt (pt h 89 0 u (gt h 75 0 i)) 90 0 u c) 12 0 65 = 0 := pr_65 d2
      have t62' : gt (pt (pt h 89 0 u (gt h 75 0 i)) 90 0 u c) 12 0 62 = u := g3
      have t81 : gt (pt (pt h 89 0 u (gt h 75 0 i)) 90 0 u c) 81 0 i = gt h0 81 0 i := g1 81 _ (by simp) (by simp) 0
      have t75 : gt h 75 0 i = gt h0 75 0 i := g1 75 _ (by simp) (by simp) 0
      rw [st]
      unfold F_X12_run_159b
      rw [if_pos (Int.le_refl 0), if_neg ni, pr_40 d2, if_pos (Int.le_refl 0), if_pos ib, if_neg n80, pr_36 d2, if_pos (Int.le_refl 0), if_neg n76, pr_35 d2, if_pos (Int.le_refl 0), pr_63 d2, if_pos (Int.le_refl 0), g3, if_pos ub, t64, if_pos (Int.le_refl 0), t62, if_pos ub]
      simp only [zl]
      rw [t41, if_pos (Int.le_refl 0), t65, if_pos (Int.le_refl 0), t62', if_pos ub, t81, t75, ← hh, w1]
      exact y1
    · have lg : zLg h0 i = 0 := if_neg o
      have up : zLc h0 (i + 1) = zLc h0 i := by rw [zLc_s, lg]; omega
      have G2 : GA c (i + 1) h0 h := by
        refine ⟨g1, g2, by rw [up]; exact g3, g4, fun l li o1 o2 => ?_⟩
        by_cases e : l = i
        · rw [e] at o1 o2; exact absurd ⟨o1, o2⟩ o
        · exact g5 l (by omega) o1 o2
      obtain ⟨h', y1, y2⟩ := r_gather a2 e34 n160 u0 u60 bin d f (i + 1) h (by omega) (by omega) G2
      refine ⟨h', ?_, y2⟩
      rw [st]
      unfold F_X12_run_159b
      rw [if_pos (Int.le_refl 0), if_neg ni, pr_40 d2, if_pos (Int.le_refl 0), if_pos ib, wI_s ri]
      rcases bin i ib.1 (by omega) with b | b
      · have n80 : gt h 80 0 i = 0 := by rw [e80]; exact b
        rw [if_pos n80]; exact y1
      · have n80 : ¬ gt h 80 0 i = 0 := by rw [e80, b]; decide
        have n76 : gt h 76 0 i ≠ 1 := by rw [e76]; exact fun z => o ⟨b, z⟩
        rw [if_neg n80, pr_36 d2, if_pos (Int.le_refl 0), if_pos n76]; exact y1
