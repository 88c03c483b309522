theorem s_noAct {h : zH} {n : Int} (h0 : 0 ≤ gt h 12 0 16) (h1 : gt h 12 0 16 ≤ 12) : F_X12_noAct 0 n h = some (if 0 ≤ n ∧ n < gt h 12 0 16 then 0 else 1, h) := by
  unfold F_X12_noAct F_X12_noAct_0
  simp only [s_in, zb]
  rw [wI_eq ⟨by omega, by omega⟩]
  by_cases c : 0 ≤ n ∧ n < gt h 12 0 16
  · have : n ≤ gt h 12 0 16 - 1 := by omega
    simp [c, this]
  · have : ¬ (0 ≤ n ∧ n ≤ gt h 12 0 16 - 1) := by omega
    simp [c, this]
theorem s_findScript {h : zH} {n : Int} (hS : SC h) (h1 : gt h 11 0 2 ≤ 12) : F_X11_findScript 0 n h = some (if 0 ≤ n ∧ n < gt h 11 0 2 then n + 1 else -1, h) := by
  unfold F_X11_findScript F_X11_findScript_0
  simp only [s_within, zb]
  by_cases c : 0 ≤ n ∧ n < gt h 11 0 2
  · have c2 : n < 12 := by omega
    have := hS.2.2.2.2.1 n c.1 c.2
    simp [c, c2, this]
  · by_cases c2 : 0 ≤ n ∧ n < 12
    · have := hS.2.2.2.2.2.1 n (by omega) c2.2
      have c3 : ¬ n < gt h 11 0 2 := by omega
      simp [c2, this, c3]
    · simp [c, c2]
/-- one ACT of all is another: number n, its SCRIPT's idx n + 1 -/
theorem RSx.one {hc hc' hr hr' : zH} {n : Int} (k : RSx hc hr) (e2 : gt hc' 11 0 2 = gt hc 11 0 2) (e16 : gt hr' 12 0 16 = gt hr 12 0 16)
    (x : ∀ (c : Nat) (i : Int), c = 10 ∨ (43 ≤ c ∧ c ≤ 48) → i ≠ n + 1 → gt hc' c i = gt hc c i) (y : ∀ j, j ≠ n → gt hr' 62 0 j = gt hr 62 0 j) (y2 : ∀ (c : Nat) j, 63 ≤ c ∧ c ≤ 65 → (j < 40 * n ∨ 40 * n + 40 ≤ j) → gt hr' c 0 j = gt hr c 0 j)
    (v : 0 ≤ n → n < gt hc 11 0 2 → gt hc' 10 (n + 1) 4 = gt hr' 62 0 n ∧ 0 ≤ gt hr' 62 0 n ∧ gt hr' 62 0 n ≤ 40 ∧ (∀ k : Int, 0 ≤ k → k < gt hr' 62 0 n → gt hc' 43 (n + 1) k = gt hr' 63 0 (40 * n + k) ∧ gt hc' 44 (n + 1) k = gt hr' 64 0 (40 * n + k) ∧ gt hc' 45 (n + 1) k = gt hr' 65 0 (40 * n + k)) ∧ JSc hc' (n + 1)) : RSx hc' hr' := by
  obtain ⟨k1, k2, k3, k4⟩ := k
  unfold RSx
  rw [e2, e16]
  refine ⟨k1, k2, k3, fun m a b => ?_⟩
  by_cases c : m = n
  · rw [c] at a b ⊢
    exact v a b
  · obtain ⟨m1, m2, m3, m4, m5⟩ := k4 m a b
    have d : m + 1 ≠ n + 1 := by omega
    rw [x 10 _ (by decide) d, x 43 _ (by decide) d, x 44 _ (by decide) d, x 45 _ (by decide) d, y m c]
    refine ⟨m1, m2, m3, fun k u w => ?_, m5.ci (x 10 _ (by decide) d) (x 43 _ (by decide) d) (x 44 _ (by decide) d) (x 45 _ (by decide) d) (x 46 _ (by decide) d) (x 47 _ (by decide) d) (x 48 _ (by decide) d)⟩
    have d2 : 40 * m + k < 40 * n ∨ 40 * n + 40 ≤ 40 * m + k := by omega
    rw [y2 63 _ (by decide) d2, y2 64 _ (by decide) d2, y2 65 _ (by decide) d2]
    exact m4 k u w
theorem ap_wipe (n : Int) : Ap (F_X11_wipe 0 n) (F_X12_wipe 0 n) := fun N hc hr h0 h1 R => by
  have R' := R
  obtain ⟨a1, a2, a3, a4, a5, a6, a7, a8, a9, a10, a11, a12⟩ := R
  have a10' := a10
  obtain ⟨k1, k2, k3, k4⟩ := a10'
  by_cases c : 0 ≤ n ∧ n < gt hc 11 0 2
  · obtain ⟨m1, m2, m3, m4, m5⟩ := k4 n c.1 c.2
    refine ⟨gt hr 62 0 n, pt (pt (pt hc 10 (n + 1) 4 0) 10 (n + 1) 5 0) 10 (n + 1) 9 0, pt hr 62 0 n 0, ?_, ?_, ?_, Nat.le_add_right _ _, Nat.le_add_right _ _⟩
    · unfold F_X11_wipe F_X11_wipe_0 F_X10_clear F_X10_clear_0
      have c1 : ¬ n + 1 = -1 := by omega
      have c2 : 0 ≤ n + 1 := by omega
      simp only [pc_11_1 a1, s_findScript a4 k3, zb]
      simp [c, c1, c2, m1]
    · unfold F_X12_wipe F_X12_wipe_0
      have c1 : n < 12 := by omega
      simp only [s_noAct (h := hr) (n := n) (by omega) (by omega), zb, k1]
      simp [c, c1, pr_17 a2]
    · have xx : zFx [] [(10, 4), (10, 5), (10, 9)] hc (pt (pt (pt hc 10 (n + 1) 4 0) 10 (n + 1) 5 0) 10 (n + 1) 9 0) := (((zFx.rf hc).p2 rfl).p2 rfl).p2 rfl
      have yy : zFx [62] [] hr (pt hr 62 0 n 0) := (zFx.rf hr).p1 rfl
      refine ⟨a1.fr xx rfl, a2.fr yy rfl, a3.fr xx rfl, a4.fr xx rfl rfl, a5.fr xx rfl yy rfl, a6.fr xx rfl yy rfl, a7.fr xx rfl yy rfl, (a8.fr xx rfl yy rfl).up (by omega), a9.fr xx rfl yy rfl, a10.one (n := n) rfl rfl (fun c i q z => ?_) (fun j z => ?_) (fun c j q z => ?_) (fun u w => ?_), a11.fr xx rfl yy rfl, a12.fr xx rfl yy rfl⟩
      · funext j
        simp [gt_pt, z]
      · simp [gt_pt, z]
      · have : c ≠ 62 := by omega
        simp [gt_pt, this]
      · have e : gt (pt hr 62 0 n 0) 62 0 n = 0 := by simp [gt_pt]
        rw [e]
        refine ⟨by simp [gt_pt], by decide, by decide, fun k q z => by omega, JSc.z ?_ ?_ ?_⟩ <;> simp [gt_pt]
  · refine ⟨-101, hc, hr, ?_, ?_, R'.up, by omega, by omega⟩
    · unfold F_X11_wipe F_X11_wipe_0
      simp only [pc_11_1 a1, s_findScript a4 k3, zb]
      simp [c]
    · unfold F_X12_wipe F_X12_wipe_0
      simp only [s_noAct (h := hr) (n := n) (by omega) (by omega), zb, k1]
      simp [c]
/-- one ACT more -/
def zAv (n : Int) (X : zH) : Prop := gt X 49 0 n = n + 1 ∧ gt X 11 0 2 = n + 1 ∧ gt X 10 (n + 1) 0 = n + 1 ∧ gt X 10 (n + 1) 1 = n + 1 ∧ gt X 10 (n + 1) 2 = n + 1 ∧ gt X 10 (n + 1) 3 = n + 1 ∧ gt X 10 (n + 1) 7 = n + 1 ∧ gt X 10 (n + 1) 8 = n + 1 ∧ gt X 10 (n + 1) 4 = 0 ∧ gt X 10 (n + 1) 5 = 0 ∧ gt X 10 (n + 1) 9 = 0
theorem SC.act {hc X : zH} {n : Int} (k : SC hc) (hn : n = gt hc 11 0 2) (xx : zFx [10, 43, 44, 45, 46, 47, 48, 49] [(11, 2)] hc X) (q : ∀ (c : Nat) (i : Int), c = 10 ∨ (43 ≤ c ∧ c ≤ 48) → i ≠ n + 1 → gt X c i = gt hc c i)
    (q49 : ∀ j, j ≠ n → gt X 49 0 j = gt hc 49 0 j) (qv : zAv n X) (qc : ∀ c : Nat, cn X c = if c = 10 ∨ (43 ≤ c ∧ c ≤ 48) then n + 2 else cn hc c) : SC X := by
  obtain ⟨s1, s2, s3, s4, s5, s6, s7, s8, s9, s10, s11, s12, s13, s14, s15, s16, s17⟩ := k
  rw [← hn] at s5 s6 s7
  have t3 : gt X 3 0 1 = gt hc 3 0 1 := xx 3 1 (by decide) (by decide) 0
  have g1 : gt X 39 = gt hc 39 := by funext i j; exact xx 39 j (by decide) (by simp) i
  have g2 : gt X 1 = gt hc 1 := by funext i j; exact xx 1 j (by decide) (by simp) i
  have g3 : gt X 40 = gt hc 40 := by funext i j; exact xx 40 j (by decide) (by simp) i
  have g4 : gt X 41 = gt hc 41 := by funext i j; exact xx 41 j (by decide) (by simp) i
  have g5 : gt X 42 = gt hc 42 := by funext i j; exact xx 42 j (by decide) (by simp) i
  have g6 : gt X 27 = gt hc 27 := by funext i j; exact xx 27 j (by decide) (by simp) i
  have g7 : gt X 6 = gt hc 6 := by funext i j; exact xx 6 j (by decide) (by simp) i
  have c0 : ∀ c : Nat, (c = 10 ∨ (43 ≤ c ∧ c ≤ 48)) → cn X c = n + 1 + 1 := fun c w => by rw [qc, if_pos w]; clear s1 s2 s3 s4 s5 s6 s7; omega
  have c1 : ∀ c : Nat, ¬ (c = 10 ∨ (43 ≤ c ∧ c ≤ 48)) → cn X c = cn hc c := fun c w => by rw [qc, if_neg w]
  unfold SC
  rw [g1, g2, g3, g4, g5, g6, g7, t3, qv.2.1, c0 10 (by decide), c0 43 (by decide), c0 44 (by decide), c0 45 (by decide), c0 46 (by decide), c0 47 (by decide), c0 48 (by decide), c1 6 (by decide), c1 34 (by decide), c1 35 (by decide)]
  refine ⟨s1, s2, s3, s4, fun a q1 q2 => ?_, fun a q1 q2 => ?_, fun i q1 q2 => ?_, s8, s9, s10, rfl, rfl, rfl, rfl, rfl, rfl, rfl⟩
  · by_cases z : a = n
    · rw [z]; exact qv.1
    · rw [q49 a z]; exact s5 a q1 (by clear s1 s2 s3 s4 s5 s6 s7 qv qc c0 c1 q49 q; omega)
  · rw [q49 a (by clear s1 s2 s3 s4 s5 s6 s7 qv qc c0 c1 q49 q; omega)]; exact s6 a (by clear s1 s2 s3 s4 s5 s6 s7 qv qc c0 c1 q49 q; omega) q2
  · by_cases z : i = n + 1
    · rw [z]; exact ⟨qv.2.2.1, qv.2.2.2.1, qv.2.2.2.2.1, qv.2.2.2.2.2.1, qv.2.2.2.2.2.2.1, qv.2.2.2.2.2.2.2.1⟩
    · rw [q 10 i (Or.inl rfl) z]; exact s7 i q1 (by clear s1 s2 s3 s4 s5 s6 s7 qv qc c0 c1 q49 q; omega)
theorem RSx.act {hc X hr Y : zH} {n : Int} (k : RSx hc hr) (hn : n = gt hc 11 0 2) (cf : n < 12) (q : ∀ (c : Nat) (i : Int), c = 10 ∨ (43 ≤ c ∧ c ≤ 48) → i ≠ n + 1 → gt X c i = gt hc c i)
    (qv : zAv n X) (w1 : gt Y 12 0 16 = n + 1) (w2 : gt Y 62 0 n = 0) (w3 : ∀ m, m ≠ n → gt Y 62 0 m = gt hr 62 0 m) (w4 : gt Y 63 = gt hr 63) (w5 : gt Y 64 = gt hr 64) (w6 : gt Y 65 = gt hr 65) : RSx X Y := by
  obtain ⟨k1, k2, k3, k4⟩ := k
  rw [← hn] at k1 k2 k3 k4
  unfold RSx
  rw [qv.2.1, w1, w4, w5, w6]
  refine ⟨rfl, by omega, by omega, fun m u w => ?_⟩
  by_cases z : m = n
  · rw [z, w2]
    exact ⟨qv.2.2.2.2.2.2.2.2.1, by decide, by decide, fun k q z => by omega, JSc.z qv.2.2.2.2.2.2.2.2.1 qv.2.2.2.2.2.2.2.2.2.1 qv.2.2.2.2.2.2.2.2.2.2⟩
  · have d : m + 1 ≠ n + 1 := by omega
    obtain ⟨m1, m2, m3, m4, m5⟩ := k4 m u (by omega)
    rw [w3 m z, q 10 _ (by decide) d, q 43 _ (by decide) d, q 44 _ (by decide) d, q 45 _ (by decide) d]
    exact ⟨m1, m2, m3, m4, m5.ci (q 10 _ (by decide) d) (q 43 _ (by decide) d) (q 44 _ (by decide) d) (q 45 _ (by decide) d) (q 46 _ (by decide) d) (q 47 _ (by decide) d) (q 48 _ (by decide) d)⟩
theorem ap_act : Ap (F_X11_act 0) (F_X12_act 0) := fun N hc hr h0 h1 R => by
  have R' := R
  obtain ⟨a1, a2, a3, a4, a5, a6, a7, a8, a9, a10, a11, a12⟩ := R
  have a10' := a10
  obtain ⟨k1, k2, k3, k4⟩ := a10'
  by_cases cf : gt hc 11 0 2 < 12
  · obtain ⟨n, hn⟩ : ∃ n, n = gt hc 11 0 2 := ⟨_, rfl⟩
    have a4' := a4
    obtain ⟨s1, s2, s3, s4, s5, s6, s7, s8, s9, s10, s11, s12, s13, s14, s15, s16, s17⟩ := a4'
    rw [← hn] at k1 k2 k3 k4 cf s5 s6 s7 s11 s12 s13 s14 s15 s16 s17
    have e1 : wI (n + 1) = n + 1 := wI_eq ⟨by omega, by omega⟩
    have e2 : wI n = n := wI_eq ⟨by omega, by omega⟩
    have z12 : ¬ n = 12 := by omega
    have n1 : 0 ≤ n + 1 := by omega
    have zd : zdf 10 4 = 0 ∧ zdf 10 5 = 0 ∧ zdf 10 9 = 0 := ⟨rfl, rfl, rfl⟩
    obtain ⟨X, hX⟩ : ∃ X, X = pt (pt (pt (nw (pt (nw (pt (nw (pt (nw (pt (nw (pt (nw (nw hc 10 10) 43 40) 10 (n + 1) 0 (n + 1)) 44 40) 10 (n + 1) 1 (n + 1)) 45 40) 10 (n + 1) 2 (n + 1)) 46 40) 10 (n + 1) 3 (n + 1)) 47 8) 10 (n + 1) 7 (n + 1)) 48 8) 10 (n + 1) 8 (n + 1)) 49 0 n (n + 1)) 11 0 2 (n + 1) := ⟨_, rfl⟩
    refine ⟨n, X, pt (pt hr 62 0 n 0) 12 0 16 (n + 1), ?_, ?_, ?_, ?_, ?_⟩
    · rw [hX]
      unfold F_X11_act F_X11_act_0 F_X10_init F_X10_init_0
      simp only [s_within, zb, zl]
      simp [← hn, cf, k2, n1, cn_pt, cn_nw, gt_pt, gt_nw, s11, s12, s13, s14, s15, s16, s17, pc_11_1 a1, e1, e2]
    · unfold F_X12_act F_X12_act_0
      simp only [zl]
      simp [k1, z12, k2, cf, pr_17 a2, gt_pt, e1, e2]
    · have xx : zFx [10, 43, 44, 45, 46, 47, 48, 49] [(11, 2)] hc X := by
        rw [hX]
        exact (((((((((((((((zFx.rf hc).n1 rfl).n1 rfl).p1 rfl).n1 rfl).p1 rfl).n1 rfl).p1 rfl).n1 rfl).p1 rfl).n1 rfl).p1 rfl).n1 rfl).p1 rfl).p1 rfl).p2 rfl
      have yy : zFx [62] [(12, 16)] hr (pt (pt hr 62 0 n 0) 12 0 16 (n + 1)) := ((zFx.rf hr).p1 rfl).p2 rfl
      have q : ∀ (c : Nat) (i : Int), c = 10 ∨ (43 ≤ c ∧ c ≤ 48) → i ≠ n + 1 → gt X c i = gt hc c i := fun c i q z => by
        funext j
        have w1 : c ≠ 49 := by omega
        have w2 : c ≠ 11 := by omega
        rw [hX]
        simp [gt_pt, gt_nw, cn_pt, cn_nw, z, s11, s12, s13, s14, s15, s16, s17, w1, w2]
      have q49 : ∀ j, j ≠ n → gt X 49 0 j = gt hc 49 0 j := fun j z => by
        rw [hX]
        simp [gt_pt, gt_nw, z]
      have qv : zAv n X := by
        unfold zAv
        rw [hX]
        simp [gt_pt, gt_nw, cn_pt, cn_nw, s11, s12, s13, s14, s15, s16, s17, zd]
      have qc : ∀ c : Nat, cn X c = if c = 10 ∨ (43 ≤ c ∧ c ≤ 48) then n + 2 else cn hc c := fun c => by
        rw [hX]
        by_cases w : c = 10 ∨ (43 ≤ c ∧ c ≤ 48)
        · rw [if_pos w]
          rcases (show c = 10 ∨ c = 43 ∨ c = 44 ∨ c = 45 ∨ c = 46 ∨ c = 47 ∨ c = 48 by omega) with rfl | rfl | rfl | rfl | rfl | rfl | rfl <;> simp [cn_pt, cn_nw, s11, s12, s13, s14, s15, s16, s17] <;> omega
        · rw [if_neg w]
          have w1 : c ≠ 10 ∧ c ≠ 43 ∧ c ≠ 44 ∧ c ≠ 45 ∧ c ≠ 46 ∧ c ≠ 47 ∧ c ≠ 48 := by omega
          simp [cn_pt, cn_nw, w1]
      exact ⟨a1.fr xx rfl, a2.fr yy rfl, a3.fr xx rfl, a4.act hn xx q q49 qv qc, a5.fr xx rfl yy rfl, a6.fr xx rfl yy rfl, a7.fr xx rfl yy rfl, (a8.fr xx rfl yy rfl).up (Int.mul_le_mul_of_nonneg_left (Int.le_add_one (Int.le_refl N)) (by decide)), a9.fr xx rfl yy rfl, a10.act hn cf q qv (by simp [gt_pt]) (by simp [gt_pt]) (fun m z => by simp [gt_pt, z]) rfl rfl rfl, a11.fr xx rfl yy rfl, a12.fr xx rfl yy rfl⟩
    · rw [hX]
      show nn hc + 1 + 1 + 1 + 1 + 1 + 1 + 1 ≤ _
      omega
    · rw [hX]
      show us hc + 10 + 40 + 40 + 40 + 40 + 8 + 8 ≤ _
      omega
  · refine ⟨-104, hc, hr, ?_, ?_, R'.up, by omega, by omega⟩
    · unfold F_X11_act F_X11_act_0
      simp only [s_within, zb]
      simp [cf]
    · unfold F_X12_act F_X12_act_0
      have : gt hr 12 0 16 = 12 := by omega
      simp [this]
