theorem ap_line (n op a b : Int) : Ap (F_X11_line 0 n op a b) (F_X12_line 0 n op a b) := fun N hc hr h0 h1 R => by
  have R' := R
  obtain ⟨a1, a2, a3, a4, a5, a6, a7, a8, a9, a10, a11, a12⟩ := R
  have a10' := a10
  obtain ⟨k1, k2, k3, k4⟩ := a10'
  by_cases c : 0 ≤ n ∧ n < gt hc 11 0 2
  · have c1 : ¬ n + 1 = -1 := by omega
    have c2 : 0 ≤ n + 1 := by omega
    have c3 : 0 ≤ n ∧ n < 12 := by omega
    obtain ⟨m1, m2, m3, m4, m5⟩ := k4 n c.1 c.2
    by_cases cf : gt hr 62 0 n < 40
    · obtain ⟨k, hk⟩ : ∃ k : Nat, (k : Int) = gt hr 62 0 n := ⟨(gt hr 62 0 n).toNat, by omega⟩
      have cn40 : ¬ (k : Int) = 40 := by omega
      have ck : k < 40 := by omega
      have s7 := a4.2.2.2.2.2.2.1 (n + 1) (by omega) (by omega)
      obtain ⟨X, u1, xx, u3, u4, u5, u6, u7⟩ := s_add (op := op) (a := a) (b := b) a3 m5 c2 s7 (m1.trans hk.symm) ck
      have e4 : 0 ≤ 40 * n + (k : Int) ∧ 40 * n + (k : Int) < 480 := by omega
      have e41 : -2147483648 ≤ 40 * n ∧ 40 * n < 2147483648 := by omega
      have e42 : -2147483648 ≤ 40 * n + (k : Int) ∧ 40 * n + (k : Int) < 2147483648 := by omega
      have e43 : -2147483648 ≤ (k : Int) + 1 ∧ (k : Int) + 1 < 2147483648 := by omega
      obtain ⟨Y, hY⟩ : ∃ Y, Y = pt (pt (pt (pt hr 63 0 (40 * n + k) op) 64 0 (40 * n + k) a) 65 0 (40 * n + k) b) 62 0 n (k + 1) := ⟨_, rfl⟩
      have yy : zFx [62, 63, 64, 65] [] hr Y := by rw [hY]; exact ((((zFx.rf hr).p1 rfl).p1 rfl).p1 rfl).p1 rfl
      have y62 : gt Y 62 0 n = (k : Int) + 1 ∧ ∀ j, j ≠ n → gt Y 62 0 j = gt hr 62 0 j := by
        rw [hY]; exact ⟨by simp [gt_pt], fun j z => by simp [gt_pt, z]⟩
      have y63 : ∀ j, gt Y 63 0 j = (if j = 40 * n + k then op else gt hr 63 0 j) ∧ gt Y 64 0 j = (if j = 40 * n + k then a else gt hr 64 0 j) ∧ gt Y 65 0 j = (if j = 40 * n + k then b else gt hr 65 0 j) := fun j => by
        rw [hY]
        by_cases z : j = 40 * n + k <;> simp [gt_pt, z]
      have y16 : gt Y 12 0 16 = gt hr 12 0 16 := by rw [hY]; rfl
      refine ⟨(k : Int) + 1, X, Y, ?_, ?_, ?_, ?_, ?_⟩
      · unfold F_X11_line F_X11_line_0
        simp only [pc_11_1 a1, s_findScript a4 k3, zb, if_pos c, u1]
        simp [c1, c2]
      · rw [hY]
        unfold F_X12_line F_X12_line_0
        simp only [s_noAct (h := hr) (n := n) (by omega) (by omega), zb, zl, k1, if_pos c]
        simp [pr_17 a2, pr_18 a2, pr_19 a2, pr_20 a2, c3, ← hk, cn40, wI_eq e41, wI_eq e42, wI_eq e43, e4, gt_pt]
      · clear hY u1
        refine ⟨a1.fr xx rfl, a2.fr yy rfl, a3.fr xx rfl, a4.fr xx rfl u3.1, a5.fr xx rfl yy rfl, a6.fr xx rfl yy rfl, a7.fr xx rfl yy rfl, (a8.fr xx rfl yy rfl).up (by omega), a9.fr xx rfl yy rfl, a10.one (n := n) (xx 11 2 (by decide) (by decide) 0) y16 (fun c i q z => u4 c i z) y62.2 (fun c j q z => ?_) (fun _ _ => ?_), a11.fr xx rfl yy rfl, a12.fr xx rfl yy rfl⟩
        · have : ¬ j = 40 * n + k := by omega
          have w := y63 j
          rw [if_neg this, if_neg this, if_neg this] at w
          rcases (show c = 63 ∨ c = 64 ∨ c = 65 by omega) with rfl | rfl | rfl
          · exact w.1
          · exact w.2.1
          · exact w.2.2
        · rw [y62.1]
          refine ⟨u5, by omega, by omega, fun j q1 q2 => ?_, u7⟩
          have w := y63 (40 * n + j)
          have v := u6 j
          by_cases z : j = k
          · have z2 : 40 * n + j = 40 * n + k := by omega
            rw [if_pos z, if_pos z, if_pos z] at v
            rw [if_pos z2, if_pos z2, if_pos z2] at w
            rw [v.1, v.2.1, v.2.2, w.1, w.2.1, w.2.2]
            exact ⟨rfl, rfl, rfl⟩
          · have z2 : ¬ 40 * n + j = 40 * n + k := by omega
            rw [if_neg z, if_neg z, if_neg z] at v
            rw [if_neg z2, if_neg z2, if_neg z2] at w
            rw [v.1, v.2.1, v.2.2, w.1, w.2.1, w.2.2]
            exact m4 j q1 (by omega)
      · rw [u3.nn]; omega
      · rw [u3.us]; omega
    · have e40 : gt hr 62 0 n = 40 := by omega
      refine ⟨-104, hc, hr, ?_, ?_, R'.up, by omega, by omega⟩
      · unfold F_X11_line F_X11_line_0 F_X10_add F_X10_add_0
        simp only [pc_11_1 a1, s_findScript a4 k3, s_within, zb]
        simp [c, c1, c2, m1, e40]
      · unfold F_X12_line F_X12_line_0
        simp only [s_noAct (h := hr) (n := n) (by omega) (by omega), zb, k1]
        simp [c, c3, pr_17 a2, e40]
  · refine ⟨-101, hc, hr, ?_, ?_, R'.up, by omega, by omega⟩
    · unfold F_X11_line F_X11_line_0
      simp only [pc_11_1 a1, s_findScript a4 k3, zb]
      simp [c]
    · unfold F_X12_line F_X12_line_0
      simp only [s_noAct (h := hr) (n := n) (by omega) (by omega), zb, k1]
      simp [c]
