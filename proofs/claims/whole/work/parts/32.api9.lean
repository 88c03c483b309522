/-- what a judging answers -/
abbrev jfn (ops as bs : Int → Int) (n : Nat) : Int := if jf ops as bs n ≠ 0 then jf ops as bs n else if js ops as bs n = [] then 0 else 5
abbrev jln (ops as bs : Int → Int) (n : Nat) : Int := if jf ops as bs n ≠ 0 then jl ops as bs n else if js ops as bs n = [] then -1 else n
theorem r_jl {a : Int} {n : Nat} {hr : zH} {ops as bs : Int → Int} (hp : PIr hr) (a0 : 0 ≤ a) (a1 : a < 12) (hn : (n : Int) = gt hr 62 0 a) (hn4 : n ≤ 40)
    (E : ∀ k : Nat, k < n → gt hr 63 0 (40 * a + k) = ops k ∧ gt hr 64 0 (40 * a + k) = as k ∧ gt hr 65 0 (40 * a + k) = bs k) :
    ∀ (f : Nat) (k : Nat) (l2 : Int) (h : zH), k ≤ n → n - k < f → zFx [66, 67] [(12, 21), (12, 22)] hr h → FrN hr h → gt h 12 0 21 = jf ops as bs k → gt h 12 0 22 = (if jf ops as bs k = 0 then -1 else jl ops as bs k) → (jf ops as bs k = 0 → l2 = ((js ops as bs k).length : Int) ∧ JO h ops (js ops as bs k)) →
    ∃ h', F_X12_judge_14 f 0 a l2 k h = some (0, h') ∧ zFx [66, 67] [(12, 21), (12, 22)] hr h' ∧ FrN hr h' ∧ gt h' 12 0 21 = jfn ops as bs n ∧ gt h' 12 0 22 = jln ops as bs n
  | 0, k, l2, h, hk, hf, _, _, _, _, _ => by omega
  | f + 1, k, l2, h, hk, hf, xx, fn, g21, g22, J => by
    have hp' : PIr h := hp.fr xx rfl
    have t62 : gt h 62 0 a = n := by rw [xx 62 a (by decide) (by simp) 0, hn]
    show ∃ h', F_X12_judge_14b (F_X12_judge_14 f) 0 a l2 k h = some (0, h') ∧ _
    by_cases c0 : jf ops as bs k = 0
    · obtain ⟨rfl, O⟩ := J c0
      rw [if_pos c0] at g22
      by_cases cn : k = n
      · subst cn
        have q : F_X12_judge_14b (F_X12_judge_14 f) 0 a ((js ops as bs k).length : Int) k h = F_X12_judge_338 0 a ((js ops as bs k).length : Int) h := by
          unfold F_X12_judge_14b
          rw [if_pos (by decide), pr_17 hp', if_pos (by decide), if_pos ⟨a0, a1⟩, if_pos (by omega)]
        rw [q]
        unfold F_X12_judge_338
        rw [if_pos (by decide), if_neg (by rw [g21, c0]; decide)]
        have j1 : ¬ jf ops as bs k ≠ 0 := by simpa using c0
        by_cases l : js ops as bs k = []
        · rw [if_pos (by rw [l]; decide)]
          exact ⟨h, rfl, xx, fn, by unfold jfn; rw [g21, if_neg j1, if_pos l]; exact c0, by unfold jln; rw [g22, if_neg j1, if_pos l]⟩
        · have l' : ¬ ((js ops as bs k).length : Int) ≤ 0 := by
            have := List.length_pos_iff.mpr l
            omega
          have g1 : gt (pt h 12 0 21 5) 12 0 17 = gt h 12 0 17 := rfl
          have g2 : gt (pt h 12 0 21 5) 62 0 a = gt h 62 0 a := rfl
          rw [if_neg l', g1, pr_17 hp', if_pos (by decide), if_pos ⟨a0, a1⟩, g2, t62]
          exact ⟨_, rfl, (xx.p2 rfl).p2 rfl, frpN (frpN fn), by unfold jfn; rw [if_neg j1, if_neg l]; rfl, by unfold jln; rw [if_neg j1, if_neg l]; rfl⟩
      · have hk' : k < n := by omega
        have hf' : n - (k + 1) < f := Nat.lt_of_lt_of_le (Nat.sub_lt_sub_left hk' (Nat.lt_succ_self k)) (Nat.le_of_lt_succ hf)
        obtain ⟨E1, E2, E3⟩ := E k hk'
        obtain ⟨l2', h1, e, x1, f1, J1⟩ := r_jstep (ag := F_X12_judge_14 f) (a := a) (k := k) (h := h) (ops := ops) (as := as) (bs := bs) (s := js ops as bs k) hp' a0 a1 (by omega) (by omega) (g21.trans c0)
          (by rw [xx 63 _ (by decide) (by simp)]; exact E1) (by rw [xx 64 _ (by decide) (by simp)]; exact E2) (by rw [xx 65 _ (by decide) (by simp)]; exact E3) (jst_len ops as bs k) O
        rw [e]
        have xx1 : zFx [66, 67] [(12, 21), (12, 22)] hr h1 := xx.tr (x1.wk rfl rfl)
        have fn1 : FrN hr h1 := fn.tr f1
        have v21 : gt h1 12 0 21 = 0 := (x1 12 21 (by decide) (by simp) 0).trans (g21.trans c0)
        have v22 : gt h1 12 0 22 = -1 := (x1 12 22 (by decide) (by simp) 0).trans g22
        have kk : wI ((k : Int) + 1) = ((k + 1 : Nat) : Int) := by rw [wI_eq ⟨by omega, by omega⟩]; omega
        unfold F_X12_judge_316
        rw [kk]
        by_cases b : jbad ops as bs k (js ops as bs k) = 0
        · rw [if_pos (by omega)]
          have ej := jst_g c0 b
          obtain ⟨w1, w2⟩ := J1 b
          refine r_jl hp a0 a1 hn hn4 E f (k + 1) l2' h1 hk' hf' xx1 fn1 ?_ ?_ (fun _ => ?_)
          · rw [v21]; show (0 : Int) = (jst ops as bs (k + 1)).1; rw [ej]
          · rw [v22, if_pos]; show (jst ops as bs (k + 1)).1 = 0; rw [ej]
          · show l2' = (((jst ops as bs (k + 1)).2.2).length : Int) ∧ JO h1 ops (jst ops as bs (k + 1)).2.2
            rw [ej]; exact ⟨w1, w2⟩
        · have bp : ¬ jbad ops as bs k (js ops as bs k) ≤ 0 := by
            have : 0 ≤ jbad ops as bs k (js ops as bs k) := by
              unfold jbad
              repeat' split
              all_goals decide
            omega
          rw [if_neg bp, if_pos (by decide)]
          have ej := jst_b c0 b
          have eb : jf ops as bs (k + 1) = jbad ops as bs k (js ops as bs k) := by show (jst ops as bs (k + 1)).1 = _; rw [ej]
          refine r_jl hp a0 a1 hn hn4 E f (k + 1) l2' _ hk' hf' ((xx1.p2 rfl).p2 rfl) (frpN (frpN fn1)) ?_ ?_ (fun z => ?_)
          · rw [eb]; rfl
          · rw [eb, if_neg b]; show (k : Int) = (jst ops as bs (k + 1)).2.1; rw [ej]
          · rw [eb] at z; exact absurd z b
    · have en : jst ops as bs n = jst ops as bs k := by
        have := jst_stay c0 (n - k)
        rw [show k + (n - k) = n by omega] at this
        exact this
      have d0 : jf ops as bs n ≠ 0 := by show (jst ops as bs n).1 ≠ 0; rw [en]; exact c0
      rw [if_neg c0] at g22
      have q : F_X12_judge_14b (F_X12_judge_14 f) 0 a l2 k h = F_X12_judge_338 0 a l2 h := by
        unfold F_X12_judge_14b
        rw [if_pos (by decide), pr_17 hp', if_pos (by decide), if_pos ⟨a0, a1⟩]
        by_cases z : gt h 62 0 a ≤ k
        · rw [if_pos z]
        · rw [if_neg z, if_pos (by rw [g21]; exact c0)]
      rw [q]
      unfold F_X12_judge_338
      rw [if_pos (by decide), if_pos (by rw [g21]; exact c0)]
      refine ⟨h, rfl, xx, fn, ?_, ?_⟩
      · unfold jfn; rw [if_pos d0, g21]; show (jst ops as bs k).1 = (jst ops as bs n).1; rw [en]
      · unfold jln; rw [if_pos d0, g22]; show (jst ops as bs k).2.1 = (jst ops as bs n).2.1; rw [en]
theorem r_judge {a : Int} {n : Nat} {hr : zH} {ops as bs : Int → Int} (hp : PIr hr) (a0 : 0 ≤ a) (a1 : a < 12) (hn : (n : Int) = gt hr 62 0 a) (hn4 : n ≤ 40)
    (E : ∀ k : Nat, k < n → gt hr 63 0 (40 * a + k) = ops k ∧ gt hr 64 0 (40 * a + k) = as k ∧ gt hr 65 0 (40 * a + k) = bs k) :
    ∃ h', F_X12_judge 0 a hr = some (0, h') ∧ zFx [66, 67] [(12, 21), (12, 22)] hr h' ∧ FrN hr h' ∧ gt h' 12 0 21 = jfn ops as bs n ∧ gt h' 12 0 22 = jln ops as bs n := by
  unfold F_X12_judge F_X12_judge_0
  rw [if_pos (by decide)]
  exact r_jl hp a0 a1 hn hn4 E zF 0 0 _ (Nat.zero_le _) (by have := zF_i; omega) (((zFx.rf hr).p2 rfl).p2 rfl) (frpN (frpN (frrN hr))) rfl rfl (fun _ => ⟨rfl, trivial⟩)
/-- an ACT's fault, on either side -/
theorem c_fault {hc hr : zH} {n : Int} (R : RSx hc hr) (h0 : 0 ≤ n) (h1 : n < gt hc 11 0 2) (hq : PIr hr) : ∃ ops as bs, ∃ m : Nat, (m : Int) = gt hr 62 0 n ∧ m ≤ 40 ∧ ops = gt hc 43 (n + 1) ∧ as = gt hc 44 (n + 1) ∧ bs = gt hc 45 (n + 1) ∧
    F_X10_faultNumber (n + 1) hc = some (jfn ops as bs m, hc) ∧ F_X10_faultLine (n + 1) hc = some (jln ops as bs m, hc) ∧
    ∃ h', F_X12_judge 0 n hr = some (0, h') ∧ zFx [66, 67] [(12, 21), (12, 22)] hr h' ∧ FrN hr h' ∧ gt h' 12 0 21 = jfn ops as bs m ∧ gt h' 12 0 22 = jln ops as bs m := by
  obtain ⟨k1, k2, k3, k4⟩ := R
  obtain ⟨m1, m2, m3, m4, m5⟩ := k4 n h0 h1
  obtain ⟨m, hm⟩ : ∃ m : Nat, m = (gt hr 62 0 n).toNat := ⟨_, rfl⟩
  have hm' : (m : Int) = gt hr 62 0 n := by omega
  obtain ⟨x1, x2, x3, x4, x5⟩ := m5
  rw [m1, ← hm] at x1 x2 x3 x4
  rw [m1] at x5
  refine ⟨gt hc 43 (n + 1), gt hc 44 (n + 1), gt hc 45 (n + 1), m, hm', by omega, rfl, rfl, rfl, ?_, ?_, r_judge hq h0 (by omega) hm' (by omega) fun k hk => ?_⟩
  · unfold F_X10_faultNumber F_X10_faultNumber_0 jfn
    rw [if_pos (by omega), x1, x3]
    generalize jf (gt hc 43 (n + 1)) (gt hc 44 (n + 1)) (gt hc 45 (n + 1)) m = F
    generalize js (gt hc 43 (n + 1)) (gt hc 44 (n + 1)) (gt hc 45 (n + 1)) m = S
    by_cases c : F = 0
    · by_cases l : S = []
      · simp [c, l]
      · have := List.length_pos_iff.mpr l
        have l2 : ¬ (S.length : Int) ≤ 0 := by omega
        simp [c, l, l2]
    · simp [c]
  · unfold F_X10_faultLine F_X10_faultLine_0 jln
    rw [x1] at x2
    rw [if_pos (by omega), x1, x3, m1, ← hm']
    generalize jf (gt hc 43 (n + 1)) (gt hc 44 (n + 1)) (gt hc 45 (n + 1)) m = F at *
    generalize js (gt hc 43 (n + 1)) (gt hc 44 (n + 1)) (gt hc 45 (n + 1)) m = S
    by_cases c : F = 0
    · by_cases l : S = []
      · simp [c, l]
      · have := List.length_pos_iff.mpr l
        have l2 : ¬ (S.length : Int) ≤ 0 := by omega
        simp [c, l, l2]
    · simp [c, x2 c]
  · obtain ⟨y1, y2, y3⟩ := m4 k (Int.natCast_nonneg k) (by omega)
    exact ⟨y1.symm, y2.symm, y3.symm⟩
theorem ap_fault (n w : Int) : Ap (F_X11_fault 0 n w) (F_X12_fault 0 n w) := fun N hc hr h0 h1 R => by
  have R' := R
  obtain ⟨a1, a2, a3, a4, a5, a6, a7, a8, a9, a10, a11, a12⟩ := R
  have a10' := a10
  obtain ⟨k1, k2, k3, k4⟩ := a10'
  by_cases c : 0 ≤ n ∧ n < gt hc 11 0 2
  · have c1 : ¬ n + 1 = -1 := by omega
    have c2 : 0 ≤ n + 1 := by omega
    by_cases cw : 0 ≤ w ∧ w < 2
    · obtain ⟨ops, as, bs, m, u1, u2, u3, u4, u5, u6, u7, h', v1, yy, v3, v4, v5⟩ := c_fault a10 c.1 c.2 a2
      have cw' : 0 ≤ w ∧ w ≤ 1 := by omega
      refine ⟨if w ≠ 0 then jln ops as bs m else jfn ops as bs m, hc, h', ?_, ?_, ?_, Nat.le_add_right _ _, Nat.le_add_right _ _⟩
      · unfold F_X11_fault F_X11_fault_0
        simp only [pc_11_1 a1, s_findScript a4 k3, s_within, zb, if_pos c, if_pos cw, if_pos c2, u6, u7]
        by_cases w0 : w = 0
        · simp [c1, w0]
        · simp [c1, w0]
      · unfold F_X12_fault F_X12_fault_0
        simp only [s_noAct (h := hr) (n := n) (by omega) (by omega), s_in, zb, k1, if_pos c, if_pos cw', v1, v4, v5]
        by_cases w0 : w = 0
        · simp [w0]
        · simp [w0]
      · have xx : zFx [] [] hc hc := zFx.rf hc
        exact ⟨a1, a2.fr yy rfl, a3, a4, a5.fr xx rfl yy rfl, a6.fr xx rfl yy rfl, a7.fr xx rfl yy rfl, (a8.fr xx rfl yy rfl).up (by omega), a9.fr xx rfl yy rfl, a10.fr xx rfl yy rfl, a11.fr xx rfl yy rfl, a12.fr xx rfl yy rfl⟩
    · refine ⟨-102, hc, hr, ?_, ?_, R'.up, by omega, by omega⟩
      · unfold F_X11_fault F_X11_fault_0
        simp only [pc_11_1 a1, s_findScript a4 k3, s_within, zb]
        simp [c, c1, cw]
      · have cw' : ¬ (0 ≤ w ∧ w ≤ 1) := by omega
        unfold F_X12_fault F_X12_fault_0
        simp only [s_noAct (h := hr) (n := n) (by omega) (by omega), s_in, zb, k1]
        simp [c, cw']
  · refine ⟨-101, hc, hr, ?_, ?_, R'.up, by omega, by omega⟩
    · unfold F_X11_fault F_X11_fault_0
      simp only [pc_11_1 a1, s_findScript a4 k3, zb]
      simp [c]
    · unfold F_X12_fault F_X12_fault_0
      simp only [s_noAct (h := hr) (n := n) (by omega) (by omega), zb, k1]
      simp [c]
