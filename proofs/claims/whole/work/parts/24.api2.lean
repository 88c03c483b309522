/-! THE CALLS ONE BY ONE -/
/-- a call of the class beside the same call of the reference -/
def Ap (F1 F2 : zH → zO) : Prop := ∀ (N : Int) (hc hr : zH), 0 ≤ N → N ≤ 1000 → Rel N hc hr → ∃ r hc' hr', F1 hc = some (r, hc') ∧ F2 hr = some (r, hr') ∧ Rel (N + 1) hc' hr' ∧ nn hc' ≤ nn hc + 8 ∧ us hc' ≤ us hc + 248
theorem RLg.up {B B' : Int} {hc hr : zH} (k : RLg B hc hr) (h : B ≤ B') : RLg B' hc hr := ⟨k.1, Int.le_trans k.2.1 h, k.2.2⟩
theorem Rel.up {N : Int} {hc hr : zH} (k : Rel N hc hr) : Rel (N + 1) hc hr := by
  obtain ⟨a1, a2, a3, a4, a5, a6, a7, a8, a9⟩ := k
  exact ⟨a1, a2, a3, a4, a5, a6, a7, a8.up (by omega), a9⟩
theorem ap_read {F1 F2 : zH → zO} (k : ∀ (N : Int) (hc hr : zH), 0 ≤ N → N ≤ 1000 → Rel N hc hr → ∃ r, F1 hc = some (r, hc) ∧ F2 hr = some (r, hr)) : Ap F1 F2 := fun N hc hr h0 h1 R => by
  obtain ⟨r, e1, e2⟩ := k N hc hr h0 h1 R
  exact ⟨r, hc, hr, e1, e2, R.up, by omega, by omega⟩
theorem ap_state (p : Int) : Ap (F_X11_state 0 p) (F_X12_state 0 p) := ap_read fun N hc hr _ _ R => by
  obtain ⟨a1, a2, a3, a4, a5, a6, a7, a8, a9, a10, a11, a12⟩ := R
  exact a_state a1 a2 a4 a5
theorem ap_cleaning (i : Int) : Ap (F_X11_cleaning 0 i) (F_X12_cleaning 0 i) := ap_read fun N hc hr _ _ R => by
  obtain ⟨a1, a2, a3, a4, a5, a6, a7, a8, a9, a10, a11, a12⟩ := R
  exact a_cleaning a1 a2 a5 a6
theorem ap_leaks : Ap (F_X11_leaks 0) (F_X12_leaks 0) := ap_read fun N hc hr _ _ R => by
  obtain ⟨a1, a2, a3, a4, a5, a6, a7, a8, a9, a10, a11, a12⟩ := R
  refine ⟨gt hc 3 0 5, ?_, ?_⟩
  · unfold F_X11_leaks F_X11_leaks_0
    simp [pc_11_0 a1]
  · unfold F_X12_leaks F_X12_leaks_0
    simp [a12.1]
theorem s_findHeld {h : zH} {i : Int} (hp : PIc h) (h1 : gt h 3 0 1 ≤ 60) (h2 : gt h 3 0 5 ≤ 60) : F_X3_findHeld 0 i h = some (if 0 ≤ i ∧ i < gt h 3 0 5 then (if 0 ≤ gt h 29 0 i ∧ gt h 29 0 i < gt h 3 0 1 then gt h 27 0 (gt h 29 0 i) else -1) else -1, h) := by
  unfold F_X3_findHeld F_X3_findHeld_0
  simp only [pc_3_4 hp, s_within, zb]
  by_cases c : 0 ≤ i ∧ i < gt h 3 0 5
  · have c3 : i < 60 := by omega
    simp [c, c3, s_find hp h1]
  · simp [c]
theorem ap_leak (i w : Int) : Ap (F_X11_leak 0 i w) (F_X12_leak 0 i w) := ap_read fun N hc hr _ _ R => by
  obtain ⟨a1, a2, a3, a4, a5, a6, a7, a8, a9, a10, a11, a12⟩ := R
  obtain ⟨p1, p2, p3, p4⟩ := a5
  obtain ⟨k1, k2, k3, k4, k5, k6⟩ := a12
  refine ⟨if 0 ≤ i ∧ i < gt hc 3 0 5 then (if w = 0 then gt hr 89 0 i else if w = 1 then gt hr 90 0 i else if w = 2 then gt hr 91 0 i else -102) else -101, ?_, ?_⟩
  · unfold F_X11_leak F_X11_leak_0
    simp only [pc_11_0 a1, s_findHeld a1 p3 (by omega), zb]
    by_cases c : 0 ≤ i ∧ i < gt hc 3 0 5
    · obtain ⟨x1, x2, x3, x4, x5, x6, x7, x8, x9, x10, x11⟩ := k4 i c.1 (by omega)
      have f1 := a4.2.2.2.1 (gt hr 89 0 i) x2 (by omega)
      have c3 : ¬ gt hr 89 0 i = -1 := by omega
      have c4 : gt hr 89 0 i < gt hc 3 0 1 := by omega
      by_cases w0 : w = 0
      · simp [c, x1, x2, c4, f1, c3, w0]
      · by_cases w1 : w = 1
        · simp [c, x1, x2, c4, f1, c3, w1, x5]
        · by_cases w2 : w = 2
          · simp [c, x1, x2, c4, f1, c3, w2, x8]
          · simp [c, x1, x2, c4, f1, c3, w0, w1, w2]
    · simp [c]
  · unfold F_X12_leak F_X12_leak_0
    simp only [s_in, zb, k1, pr_63 a2, pr_64 a2, pr_65 a2]
    rw [wI_eq ⟨by omega, by omega⟩]
    by_cases c : 0 ≤ i ∧ i < gt hc 3 0 5
    · have c4 : i ≤ gt hc 3 0 5 - 1 := by omega
      have c5 : i < 60 := by omega
      by_cases w0 : w = 0
      · simp [c, c4, c5, w0]
      · by_cases w1 : w = 1
        · simp [c, c4, c5, w1]
        · by_cases w2 : w = 2
          · simp [c, c4, c5, w2]
          · simp [c, c4, c5, w0, w1, w2]
    · have c4 : ¬ (0 ≤ i ∧ i ≤ gt hc 3 0 5 - 1) := by omega
      simp [c, c4]
theorem ap_trace (i k w : Int) : Ap (F_X11_trace 0 i k w) (F_X12_trace_ 0 i k w) := ap_read fun N hc hr _ _ R => by
  obtain ⟨a1, a2, a3, a4, a5, a6, a7, a8, a9, a10, a11, a12⟩ := R
  obtain ⟨p1, p2, p3, p4⟩ := a5
  obtain ⟨k1, k2, k3, k4, k5, k6⟩ := a12
  refine ⟨if 0 ≤ i ∧ i < gt hc 3 0 5 then (if 0 ≤ k ∧ k < gt hr 91 0 i then (if 0 ≤ w ∧ w < 2 then gt hr 92 0 (20 * i + 2 * k + w) else -102) else -101) else -101, ?_, ?_⟩
  · unfold F_X11_trace F_X11_trace_0
    simp only [pc_11_0 a1, s_findHeld a1 p3 (by omega), zb, s_within]
    by_cases c : 0 ≤ i ∧ i < gt hc 3 0 5
    · obtain ⟨x1, x2, x3, x4, x5, x6, x7, x8, x9, x10, x11⟩ := k4 i c.1 (by omega)
      have f1 := a4.2.2.2.1 (gt hr 89 0 i) x2 (by omega)
      have c3 : ¬ gt hr 89 0 i = -1 := by omega
      have c4 : gt hr 89 0 i < gt hc 3 0 1 := by omega
      by_cases ck : 0 ≤ k ∧ k < gt hr 91 0 i
      · have y1 := x11 k ck.1 ck.2
        have y2 : k < 10 := by omega
        by_cases cw : 0 ≤ w ∧ w < 2
        · rcases (show w = 0 ∨ w = 1 by omega) with rfl | rfl
          · simp [c, x1, x2, c4, f1, c3, x8, ck, y1, y2]
          · simp [c, x1, x2, c4, f1, c3, x8, ck, y1, y2]
        · simp [c, x1, x2, c4, f1, c3, x8, ck, cw]
      · simp [c, x1, x2, c4, f1, c3, x8, ck]
    · simp [c]
  · unfold F_X12_trace_ F_X12_trace__0
    simp only [s_in, zb, k1, pr_65 a2, pr_66 a2]
    rw [wI_eq (z := gt hc 3 0 5 - 1) ⟨by omega, by omega⟩]
    by_cases c : 0 ≤ i ∧ i < gt hc 3 0 5
    · obtain ⟨x1, x2, x3, x4, x5, x6, x7, x8, x9, x10, x11⟩ := k4 i c.1 (by omega)
      have c4 : i ≤ gt hc 3 0 5 - 1 := by omega
      have c5 : i < 60 := by omega
      rw [wI_eq (z := gt hr 91 0 i - 1) ⟨by omega, by omega⟩]
      by_cases ck : 0 ≤ k ∧ k < gt hr 91 0 i
      · have c6 : k ≤ gt hr 91 0 i - 1 := by omega
        by_cases cw : 0 ≤ w ∧ w < 2
        · have c7 : w ≤ 1 := by omega
          have e1 : wI (wI (wI (20 * i) + wI (2 * k)) + w) = 20 * i + 2 * k + w := by
            rw [wI_eq (z := 20 * i) ⟨by omega, by omega⟩, wI_eq (z := 2 * k) ⟨by omega, by omega⟩, wI_eq (z := 20 * i + 2 * k) ⟨by omega, by omega⟩, wI_eq ⟨by omega, by omega⟩]
          have c8 : 0 ≤ 20 * i + 2 * k + w ∧ 20 * i + 2 * k + w < 1200 := by omega
          simp [c, c4, c5, ck, c6, cw, c7, e1, c8]
        · have c7 : ¬ (0 ≤ w ∧ w ≤ 1) := by omega
          simp [c, c4, c5, ck, c6, cw, c7]
      · have c6 : ¬ (0 ≤ k ∧ k ≤ gt hr 91 0 i - 1) := by omega
        simp [c, c4, c5, ck, c6]
    · have c4 : ¬ (0 ≤ i ∧ i ≤ gt hc 3 0 5 - 1) := by omega
      simp [c, c4]
theorem ap_ran (w : Int) : Ap (F_X11_ran 0 w) (F_X12_ran 0 w) := ap_read fun N hc hr _ _ R => by
  obtain ⟨a1, a2, a3, a4, a5, a6, a7, a8, a9, a10, a11, a12⟩ := R
  obtain ⟨k1, k2, k3, k4, k5, k6, k7, k8⟩ := a11
  refine ⟨if w = 0 then gt hr 12 0 54 else if w = 1 then gt hr 12 0 55 else if w = 2 then gt hr 12 0 45 else if w = 3 then gt hr 12 0 56 else if w = 4 then gt hr 12 0 44 else if w = 5 then gt hr 12 0 58 else if w = 6 then gt hr 12 0 59 else -102, ?_, ?_⟩
  · unfold F_X11_ran F_X11_ran_0 F_X8_told F_X8_told_0
    simp only [pc_11_3 a1, pc_8_10 a1, s_within, zb]
    by_cases w0 : w = 0
    · simp [w0, k1]
    by_cases w1 : w = 1
    · simp [w1, k2]
    by_cases w2 : w = 2
    · simp [w2, k3]
    by_cases w3 : w = 3
    · simp [w3, k4]
    by_cases w4 : w = 4
    · simp [w4, k5]
    by_cases w5 : w = 5
    · simp [w5, k6]
    by_cases w6 : w = 6
    · rw [← k7]
      by_cases q : gt hc 8 0 17 = 1
      · simp [w6, q]
      · simp [w6, q]
    · have : ¬ (0 ≤ w ∧ w < 7) := by omega
      simp [w0, w1, w2, w3, w4, w5, w6, this]
  · unfold F_X12_ran F_X12_ran_0
    by_cases w0 : w = 0
    · simp [w0]
    by_cases w1 : w = 1
    · simp [w1]
    by_cases w2 : w = 2
    · simp [w2]
    by_cases w3 : w = 3
    · simp [w3]
    by_cases w4 : w = 4
    · simp [w4]
    by_cases w5 : w = 5
    · simp [w5]
    by_cases w6 : w = 6
    · simp [w6]
    · simp [w0, w1, w2, w3, w4, w5, w6]
theorem ap_failure (i w : Int) : Ap (F_X11_failure 0 i w) (F_X12_failure 0 i w) := ap_read fun N hc hr _ _ R => by
  obtain ⟨a1, a2, a3, a4, a5, a6, a7, a8, a9, a10, a11, a12⟩ := R
  obtain ⟨k1, k2, k3, k4, k5, k6, k7, k8, k9, k10⟩ := a11
  refine ⟨if 0 ≤ i ∧ i < gt hc 2 0 6 then (if w = 0 then gt hr 83 0 i else if w = 1 then gt hr 84 0 i else if w = 2 then gt hr 85 0 i else if w = 3 then gt hr 86 0 i else if w = 4 then gt hr 87 0 i else if w = 5 then gt hr 88 0 i else -102) else -101, ?_, ?_⟩
  · unfold F_X11_failure F_X11_failure_0 F_X2_told F_X2_told_0
    simp only [pc_11_3 a1, pc_8_10 a1, pc_2_0 a1, pc_2_1 a1, pc_2_2 a1, pc_2_3 a1, pc_2_4 a1, pc_2_5 a1, s_within, zb]
    by_cases c : 0 ≤ i ∧ i < gt hc 2 0 6
    · have y := k10 i c.1 c.2
      have c5 : i < 16 := by omega
      by_cases w0 : w = 0
      · simp [c, w0, y, c5]
      by_cases w1 : w = 1
      · simp [c, w1, y, c5]
      by_cases w2 : w = 2
      · simp [c, w2, y, c5]
      by_cases w3 : w = 3
      · simp [c, w3, y, c5]
      by_cases w4 : w = 4
      · simp [c, w4, y, c5]
      by_cases w5 : w = 5
      · simp [c, w5, y, c5]
      · have : ¬ (0 ≤ w ∧ w < 6) := by omega
        simp [c, w0, w1, w2, w3, w4, w5, this]
    · simp [c]
  · unfold F_X12_failure F_X12_failure_0
    simp only [s_in, zb, ← k3, pr_46 a2, pr_47 a2, pr_48 a2, pr_49 a2, pr_50 a2, pr_51 a2]
    rw [wI_eq ⟨by omega, by omega⟩]
    by_cases c : 0 ≤ i ∧ i < gt hc 2 0 6
    · have c4 : i ≤ gt hc 2 0 6 - 1 := by omega
      have c5 : i < 16 := by omega
      by_cases w0 : w = 0
      · simp [c, c4, c5, w0]
      by_cases w1 : w = 1
      · simp [c, c4, c5, w1]
      by_cases w2 : w = 2
      · simp [c, c4, c5, w2]
      by_cases w3 : w = 3
      · simp [c, c4, c5, w3]
      by_cases w4 : w = 4
      · simp [c, c4, c5, w4]
      by_cases w5 : w = 5
      · simp [c, c4, c5, w5]
      · simp [c, c4, c5, w0, w1, w2, w3, w4, w5]
    · have c4 : ¬ (0 ≤ i ∧ i ≤ gt hc 2 0 6 - 1) := by omega
      simp [c, c4]
