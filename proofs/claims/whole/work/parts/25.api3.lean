theorem ap_log (i w : Int) : Ap (F_X11_log 0 i w) (F_X12_log 0 i w) := ap_read fun N hc hr h0 h1 R => by
  obtain ⟨a1, a2, a3, a4, a5, a6, a7, a8, a9, a10, a11, a12⟩ := R
  obtain ⟨k1, k2, k3, k4, k5⟩ := a8
  have hcn : 0 ≤ gt hc 5 0 3 ∧ gt hc 5 0 3 ≤ 60 := by rw [k3]; split <;> omega
  refine ⟨if 0 ≤ w ∧ w < 3 then (if 0 ≤ i ∧ i < gt hc 5 0 3 then (if w = 0 then gt hr 59 0 ((gt hr 12 0 12 - 1 - i) % 60) else if w = 1 then gt hr 60 0 ((gt hr 12 0 12 - 1 - i) % 60) else gt hr 61 0 ((gt hr 12 0 12 - 1 - i) % 60)) else -1) else -102, ?_, ?_⟩
  · unfold F_X11_log F_X11_log_0 F_X5_told F_X5_told_0
    simp only [pc_11_0 a1, pc_3_8 a1, pc_5_0 a1, pc_5_1 a1, pc_5_2 a1, s_within, zb]
    by_cases cw : 0 ≤ w ∧ w < 3
    · by_cases c : 0 ≤ i ∧ i < gt hc 5 0 3
      · have hpl : ∃ at', at' = (gt hr 12 0 12 - 1 - i) % 60 ∧ 0 ≤ at' ∧ at' < gt hc 5 0 3 ∧ at' < 60 := by
          refine ⟨_, rfl, ?_, ?_, ?_⟩
          · omega
          · rw [k3] at c ⊢; split at c <;> omega
          · omega
        obtain ⟨at', ea, b0, b1, b2⟩ := hpl
        rw [← ea]
        obtain ⟨y1, y2, y3⟩ := k5 at' b0 b1
        have i60 : i < 60 := by omega
        by_cases cl : i ≤ gt hc 5 0 4
        · have e1 : wI (gt hc 5 0 4 - i) = at' := by rw [wI_eq ⟨by omega, by omega⟩]; omega
          have cl2 : ¬ gt hc 5 0 4 < i := by omega
          rcases (show w = 0 ∨ w = 1 ∨ w = 2 by omega) with rfl | rfl | rfl <;> simp [c, cl2, e1, b0, b2, y1, y2, y3]
        · have e1 : wI (wI (gt hc 5 0 4 - i) + 60) = at' := by rw [wI_eq (z := gt hc 5 0 4 - i) ⟨by omega, by omega⟩, wI_eq ⟨by omega, by omega⟩]; omega
          have cl2 : gt hc 5 0 4 < i := by omega
          rcases (show w = 0 ∨ w = 1 ∨ w = 2 by omega) with rfl | rfl | rfl <;> simp [c, cl2, e1, b0, b2, y1, y2, y3]
      · simp [cw, c]
    · simp [cw]
  · unfold F_X12_log F_X12_log_0
    simp only [s_in, zb, pr_13 a2, pr_14 a2, pr_15 a2]
    by_cases cw : 0 ≤ w ∧ w ≤ 2
    · have cw' : 0 ≤ w ∧ w < 3 := by omega
      have key : (if gt hr 12 0 12 < 60 then gt hr 12 0 12 else 60) = gt hc 5 0 3 := k3.symm
      by_cases c : 0 ≤ i ∧ i < gt hc 5 0 3
      · have hx : 0 ≤ gt hr 12 0 12 - 1 - i := by rw [k3] at c; split at c <;> omega
        have e1 : wI (gt hr 12 0 12 - 1 - i) = gt hr 12 0 12 - 1 - i := wI_eq ⟨by omega, by omega⟩
        have e2 : wI (gt hr 12 0 12 - 1) = gt hr 12 0 12 - 1 := wI_eq ⟨by omega, by omega⟩
        have b0 : 0 ≤ (gt hr 12 0 12 - 1 - i) % 60 ∧ (gt hr 12 0 12 - 1 - i) % 60 < 60 := by omega
        by_cases cl : gt hr 12 0 12 < 60
        · rw [if_pos cl] at key
          have c2 : i ≤ gt hr 12 0 12 - 1 := by omega
          have e2 : wI (gt hr 12 0 12 - 1) = gt hr 12 0 12 - 1 := wI_eq ⟨by omega, by omega⟩
          have cl' : ¬ 60 ≤ gt hr 12 0 12 := by omega
          rcases (show w = 0 ∨ w = 1 ∨ w = 2 by omega) with rfl | rfl | rfl <;> simp [c, cl, cl', c2, e1, e2, hx, b0]
        · rw [if_neg cl] at key
          have c2 : i ≤ 59 := by omega
          have cl' : 60 ≤ gt hr 12 0 12 := by omega
          have e59 : wI 59 = 59 := by decide
          have c3 : i ≤ gt hr 12 0 12 - 1 := by omega
          rcases (show w = 0 ∨ w = 1 ∨ w = 2 by omega) with rfl | rfl | rfl <;> simp [c, cl, cl', c2, c3, e1, e2, e59, hx, b0]
      · by_cases cl : gt hr 12 0 12 < 60
        · rw [if_pos cl] at key
          have e2 : wI (gt hr 12 0 12 - 1) = gt hr 12 0 12 - 1 := wI_eq ⟨by omega, by omega⟩
          have c2 : ¬ (0 ≤ i ∧ i ≤ gt hr 12 0 12 - 1) := by omega
          have cl' : ¬ 60 ≤ gt hr 12 0 12 := by omega
          simp [c, cw, cw', cl, cl', c2, e2]
        · rw [if_neg cl] at key
          have e59 : wI 59 = 59 := by decide
          have c2 : ¬ (0 ≤ i ∧ i ≤ 59) := by omega
          have cl' : 60 ≤ gt hr 12 0 12 := by omega
          simp [c, cw, cw', cl, cl', c2, e59]
    · have cw' : ¬ (0 ≤ w ∧ w < 3) := by omega
      simp [cw, cw']
theorem ap_plan (p n w : Int) : Ap (F_X11_plan 0 p n w) (F_X12_plan 0 p n w) := fun N hc hr h0 h1 R => by
  have R' := R
  obtain ⟨a1, a2, a3, a4, a5, a6, a7, a8, a9, a10, a11, a12⟩ := R
  have a5' := a5
  obtain ⟨p1, p2, p3, p4⟩ := a5'
  obtain ⟨k1, k2, k3, k4⟩ := a7
  by_cases cp : 0 ≤ p ∧ p < gt hc 3 0 1
  · have f1 := a4.2.2.2.1 p cp.1 cp.2
    have cp3 : ¬ p = -1 := by omega
    by_cases cn' : 1 ≤ n ∧ n ≤ 20 ∧ 0 ≤ w ∧ w < 2
    · obtain ⟨n1, n2, w1, w2⟩ := cn'
      have n3 : ¬ n < 1 := by omega
      have n4 : ¬ 20 < n := by omega
      have w3 : w ≤ 1 := by omega
      by_cases cf : gt hc 7 0 3 < 30
      · have e1 : wI (gt hc 7 0 3 + 1) = gt hc 7 0 3 + 1 := wI_eq ⟨by omega, by omega⟩
        refine ⟨gt hc 7 0 3 + 1, pt (pt (pt (pt hc 36 0 (gt hc 7 0 3) p) 37 0 (gt hc 7 0 3) n) 38 0 (gt hc 7 0 3) w) 7 0 3 (gt hc 7 0 3 + 1), pt (pt (pt (pt (pt hr 54 0 (gt hc 7 0 3) p) 55 0 (gt hc 7 0 3) n) 56 0 (gt hc 7 0 3) w) 57 0 (gt hc 7 0 3) 0) 12 0 6 (gt hc 7 0 3 + 1), ?_, ?_, ?_, Nat.le_add_right _ _, Nat.le_add_right _ _⟩
        · unfold F_X11_plan F_X11_plan_0 F_X7_add F_X7_add_0
          simp only [pc_11_0 a1, pc_3_7 a1, s_find a1 p3, s_within, zb, zl]
          simp [cp, f1, cp3, n3, n4, w1, w2, cf, k2, gt_pt, pc_7_0 a1, pc_7_1 a1, pc_7_2 a1, e1]
        · unfold F_X12_plan F_X12_plan_0
          have c30 : ¬ gt hc 7 0 3 = 30 := by omega
          simp only [s_noPart (h := hr) (p := p) (by omega) (by omega), s_in, zb, zl, p1]
          simp [cp, n1, n2, w1, w3, k1, cf, k2, c30, gt_pt, pr_7 a2, pr_8 a2, pr_9 a2, pr_10 a2, e1]
        · refine ⟨a1.cg ?_, a2.cg ?_, a3.cg ?_, SC.cg (h := hc) ?_ rfl a4, a5.cg ?_ ?_, a6.cg ?_ ?_, ⟨rfl, ?_, ?_, ?_⟩, (a8.cg ?_ ?_).up (by omega), a9.cg ?_ ?_, a10.cg ?_ ?_, a11.cg ?_ ?_, a12.cg ?_ ?_⟩
          any_goals (intro c i j t; simp only [gt_pt]; rw [if_neg (by omega), if_neg (by omega), if_neg (by omega), if_neg (by omega)]; done)
          any_goals (intro c i j t; simp only [gt_pt]; rw [if_neg (by omega), if_neg (by omega), if_neg (by omega), if_neg (by omega), if_neg (by omega)]; done)
          · show 0 ≤ gt hc 7 0 3 + 1
            omega
          · show gt hc 7 0 3 + 1 ≤ 30
            omega
          · intro i b0 b1
            have b1 : i < gt hc 7 0 3 + 1 := b1
            by_cases q : i = gt hc 7 0 3
            · simp [gt_pt, q]; omega
            · have q1 := k4 i b0 (by omega)
              simp [gt_pt, q, q1]
              omega
      · refine ⟨-104, hc, hr, ?_, ?_, R'.up, by omega, by omega⟩
        · unfold F_X11_plan F_X11_plan_0 F_X7_add F_X7_add_0
          simp only [pc_11_0 a1, pc_3_7 a1, s_find a1 p3, s_within, zb, zl]
          simp [cp, f1, cp3, n3, n4, w1, w2, cf]
        · unfold F_X12_plan F_X12_plan_0
          have c30 : gt hc 7 0 3 = 30 := by omega
          simp only [s_noPart (h := hr) (p := p) (by omega) (by omega), s_in, zb, zl, p1]
          simp [cp, n1, n2, w1, w3, k1, c30]
    · refine ⟨-102, hc, hr, ?_, ?_, R'.up, by omega, by omega⟩
      · unfold F_X11_plan F_X11_plan_0 F_X7_add F_X7_add_0
        simp only [pc_11_0 a1, pc_3_7 a1, s_find a1 p3, s_within, zb, zl]
        by_cases n3 : n < 1
        · simp [cp, f1, cp3, n3]
        by_cases n4 : 20 < n
        · simp [cp, f1, cp3, n3, n4]
        · have w3 : ¬ (0 ≤ w ∧ w < 2) := by omega
          simp [cp, f1, cp3, n3, n4, w3]
      · unfold F_X12_plan F_X12_plan_0
        simp only [s_noPart (h := hr) (p := p) (by omega) (by omega), s_in, zb, zl, p1]
        by_cases n3 : 1 ≤ n ∧ n ≤ 20
        · have w3 : ¬ (0 ≤ w ∧ w ≤ 1) := by omega
          simp [cp, n3, w3]
        · simp [cp, n3]
  · refine ⟨-101, hc, hr, ?_, ?_, R'.up, by omega, by omega⟩
    · unfold F_X11_plan F_X11_plan_0
      simp only [pc_11_0 a1, s_find a1 p3, zb]
      simp [cp]
    · unfold F_X12_plan F_X12_plan_0
      simp only [s_noPart (h := hr) (p := p) (by omega) (by omega), zb, p1]
      simp [cp]
theorem ap_plans (g : Int) : Ap (F_X11_plans 0 g) (F_X12_plans 0 g) := fun N hc hr h0 h1 R => by
  have R' := R
  obtain ⟨a1, a2, a3, a4, a5, a6, a7, a8, a9, a10, a11, a12⟩ := R
  obtain ⟨k1, k2, k3, k4⟩ := a7
  by_cases cg : g = 0
  · refine ⟨gt hc 7 0 3, hc, pt hr 12 0 6 (gt hc 7 0 3), ?_, ?_, ?_, by omega, by omega⟩
    · unfold F_X11_plans F_X11_plans_0
      simp only [pc_11_0 a1, pc_3_7 a1]
      simp [cg]
    · unfold F_X12_plans F_X12_plans_0
      simp [cg, k1]
    · refine ⟨a1, a2.cg ?_, a3, a4, a5.cg (fun _ _ _ _ => rfl) ?_, a6.cg (fun _ _ _ _ => rfl) ?_, ⟨rfl, k2, k3, k4⟩, (a8.cg (fun _ _ _ _ => rfl) ?_).up (by omega), a9.cg (fun _ _ _ _ => rfl) ?_, a10.cg (fun _ _ _ _ => rfl) ?_, a11.cg (fun _ _ _ _ => rfl) ?_, a12.cg (fun _ _ _ _ => rfl) ?_⟩
      all_goals (intro c i j t; simp only [gt_pt]; rw [if_neg (by omega)])
  · refine ⟨gt hc 7 0 3, pt hc 7 0 3 0, pt hr 12 0 6 0, ?_, ?_, ?_, Nat.le_add_right _ _, Nat.le_add_right _ _⟩
    · unfold F_X11_plans F_X11_plans_0
      simp only [pc_11_0 a1, pc_3_7 a1]
      simp [cg]
    · unfold F_X12_plans F_X12_plans_0
      simp [cg, k1]
    · refine ⟨a1.cg ?_, a2.cg ?_, a3.cg ?_, SC.cg (h := hc) ?_ rfl a4, a5.cg ?_ ?_, a6.cg ?_ ?_, ⟨rfl, (show (0 : Int) ≤ 0 by decide), (show (0 : Int) ≤ 30 by decide), fun i b0 b1 => ?_⟩, (a8.cg ?_ ?_).up (by omega), a9.cg ?_ ?_, a10.cg ?_ ?_, a11.cg ?_ ?_, a12.cg ?_ ?_⟩
      any_goals (intro c i j t; simp only [gt_pt]; rw [if_neg (by omega)]; done)
      have b1 : i < 0 := b1
      omega
