/-! RUN, side by side -/
theorem zLc_at {h : zH} : ∀ (n : Nat) (j : Int), 0 ≤ j → j < zLc h n → ∃ l : Nat, l < n ∧ gt h 80 0 l = 1 ∧ gt h 76 0 l = 1 ∧ zLc h l = j
  | 0, j, j0, j1 => by
    have : zLc h 0 = 0 := rfl
    omega
  | n + 1, j, j0, j1 => by
    rw [zLc_s] at j1
    by_cases q : j < zLc h n
    · obtain ⟨l, a, b⟩ := zLc_at n j j0 q
      exact ⟨l, by omega, b⟩
    · by_cases o : gt h 80 0 n = 1 ∧ gt h 76 0 n = 1
      · have lg : zLg h n = 1 := if_pos o
        exact ⟨n, by omega, o.1, o.2, by omega⟩
      · have lg : zLg h n = 0 := if_neg o
        omega
theorem fin_rel {N c v : Int} {hc hr : zH} (N0 : 0 ≤ N) (F : FIN (200 * N) c v hc hr) : ∃ hr', F_X12_run_159 zF 0 c 0 hr = some (v, hr') ∧ Rel (N + 1) hc hr' := by
  obtain ⟨n, sid, C, RFx, f1, f2, f3, f4, f5, f6⟩ := F
  have C' := C
  obtain ⟨a1, a2, a3, a4, a5, a6, a7, a8, a9, a10, ⟨b1, b2, b3, b4, b5, b6, b7, b8, b9, b10⟩, K, U, H, L, T⟩ := C'
  have hz := zF_i
  obtain ⟨h1, h2, h3⟩ := H.le L.1 a5
  have p60 := a5.2.2.1
  have p0 := a5.1
  have bin : ∀ l : Int, 0 ≤ l → l < n → gt hr 80 0 l = 0 ∨ gt hr 80 0 l = 1 := fun l x y => (K.1 l x y).2.1.2.1
  have G0 : GA c 0 hr hr := ⟨zFx.rf hr, frrN hr, by have : zLc hr 0 = 0 := rfl; omega, fun j _ _ => ⟨rfl, rfl, rfl, fun _ _ _ => rfl⟩, fun l hl => by omega⟩
  obtain ⟨hr', g1, xr, g2, g3, g4, g5⟩ := r_gather (c := c) a2 b2 b4 L.1 (by have := H.1; omega) bin n zF 0 hr (by omega) (by omega) G0
  rw [f2] at g1
  have xc : zFx [] [] hc hc := zFx.rf hc
  have zs := (zSum_op K).1
  have e3 : gt hr' 12 0 62 = gt hc 3 0 5 := by rw [g3]; exact H.1.symm
  have q0 : gt hr' 12 0 0 = gt hr 12 0 0 := xr 12 0 (by simp) (by decide) 0
  have q52 : ∀ p, gt hr' 52 0 p = gt hr 52 0 p := fun p => xr 52 p (by simp) (by simp) 0
  have RR : RRn hc hr := ⟨f1.trans f2.symm, f3, RFx.1, b1.trans b3.symm, f5.symm, f4, by rw [f1]; exact f6, RFx.2.1, RFx.2.2.1, fun i i0 i1 => by
    obtain ⟨s1, s2, s3, s4, s5, s6, _⟩ := RFx.2.2.2 i i0 i1
    exact ⟨s1, s2, s3, s4, s5, s6⟩⟩
  -- each LEAK
  have each : ∀ i : Int, 0 ≤ i → i < gt hr' 12 0 62 → gt hc 29 0 i = gt hr' 89 0 i ∧ 0 ≤ gt hr' 89 0 i ∧ gt hr' 89 0 i < gt hr 12 0 0 ∧ gt hr 52 0 (gt hr' 89 0 i) = 1 ∧ gt hc 6 (gt hr' 89 0 i) 4 = gt hr' 90 0 i ∧ 0 ≤ gt hr' 90 0 i ∧ gt hr' 90 0 i < 8 ∧
      gt hc 6 (gt hr' 89 0 i) 7 = gt hr' 91 0 i ∧ 0 ≤ gt hr' 91 0 i ∧ gt hr' 91 0 i ≤ 10 ∧ ∀ k : Int, 0 ≤ k → k < gt hr' 91 0 i → gt hc 34 (gt hr' 89 0 i) k = gt hr' 92 0 (20 * i + 2 * k) ∧ gt hc 35 (gt hr' 89 0 i) k = gt hr' 92 0 (20 * i + 2 * k + 1) := fun i i0 i1 => by
    by_cases q : i < gt hr 12 0 62
    · obtain ⟨s1, s2, s3, s4⟩ := g4 i i0 q
      obtain ⟨t1, t2, t3, t4, t5, t6, t7, t8, t9, t10, t11⟩ := L.2.1 i i0 q
      rw [s1, s2, s3]
      refine ⟨t1, t2, t3, t4, t5, t6, t7, t8, t9, t10, fun k k0 k1 => ?_⟩
      have w := t11 k k0 k1
      rw [s4 (2 * k) (by omega) (by omega), show 20 * i + 2 * k + 1 = 20 * i + (2 * k + 1) by omega, s4 (2 * k + 1) (by omega) (by omega)]
      rw [show 20 * i + 2 * k + 1 = 20 * i + (2 * k + 1) by omega] at w
      exact w
    · obtain ⟨l, l1, o1, o2, l2⟩ := zLc_at (h := hr) n (i - gt hr 12 0 62) (by omega) (by omega)
      obtain ⟨s1, s2, s3, s4⟩ := g5 l l1 o1 o2
      have e : gt hr 12 0 62 + zLc hr l = i := by omega
      rw [e] at s1 s2 s3 s4
      have w := H.2.1 l l1 o1 o2
      rw [e] at w
      have A := (K.1 l (Int.natCast_nonneg l) (by omega)).1
      have zu : zU n hr l := ⟨Int.natCast_nonneg l, by omega, o1, by rw [o2]; decide⟩
      have u1 := U.1 l zu
      obtain ⟨t1, t2, t3, t4⟩ := T l zu o2
      obtain ⟨m1, m2, m3, m4, m5, _⟩ := A
      rw [s1, s2, s3]
      refine ⟨w, m4, m5, u1.1, u1.2.1, b7, b8, t1, t2, t3, fun k k0 k1 => ?_⟩
      have y := t4 k k0 k1
      rw [s4 (2 * k) (by omega) (by omega), show 20 * i + 2 * k + 1 = 20 * i + (2 * k + 1) by omega, s4 (2 * k + 1) (by omega) (by omega)]
      rw [show 20 * (l : Int) + 2 * k + 1 = 20 * (l : Int) + (2 * k + 1) by omega] at y
      exact y
  refine ⟨hr', g1, a1, a2.fr xr rfl, a3, a4, a5.fr xc rfl xr rfl, a6.fr xc rfl xr rfl, a7.fr xc rfl xr rfl, (a8.fr xc rfl xr rfl).up (by omega), a9.fr xc rfl xr rfl, a10.fr xc rfl xr rfl, RR.fr xc rfl xr rfl, e3, h1, by rw [q0]; exact h2, fun i i0 i1 => ?_, fun i j i0 ij j1 => ?_, fun p x0 x1 x2 => ?_⟩
  · obtain ⟨s1, s2, s3, s4, s5⟩ := each i i0 i1
    rw [q0, q52]
    exact ⟨s1, s2, s3, s4, s5⟩
  · rw [← (each i i0 (by omega)).1, ← (each j (by omega) j1).1]
    exact H.2.2.2 i j i0 ij (by omega)
  · rw [q0] at x1
    rw [q52] at x2
    rcases U.2.2 p x0 x1 x2 with ⟨i, i0, i1, i2⟩ | ⟨l, ⟨l0, l1, l2, l3⟩, l4⟩
    · exact ⟨i, i0, by omega, (g4 i i0 i1).1.trans i2⟩
    · by_cases o2 : gt hr 76 0 l = 1
      · obtain ⟨l', rfl⟩ : ∃ l' : Nat, l = l' := ⟨l.toNat, by omega⟩
        have s1 := (g5 l' (by omega) l2 o2).1
        have ll : zLc hr (l' + 1) = zLc hr l' + 1 := by rw [zLc_s]; unfold zLg; rw [if_pos ⟨l2, o2⟩]
        have lm : zLc hr (l' + 1) ≤ zLc hr n := zLc_mo (show l' + 1 ≤ n by omega)
        have lz : 0 ≤ zLc hr l' := zLc_mo (h := hr) (m := 0) (n := l') (Nat.zero_le _)
        exact ⟨gt hr 12 0 62 + zLc hr l', by have := L.1; omega, by omega, s1.trans l4⟩
      · have y := K.2.2.1 l ⟨l0, l1, l2, o2⟩
        have y1 := y.1
        have y2 := y.2.1
        omega
theorem jbad_nn {ops as bs : Int → Int} {k : Int} {s : zK} : 0 ≤ jbad ops as bs k s := by
  unfold jbad
  split
  · decide
  · split
    · split <;> decide
    · split
      · cases s with
        | nil => exact (by decide : (0 : Int) ≤ 2)
        | cons e t =>
          show 0 ≤ (if ops e.1 = 13 ∧ ops e.2 ≠ 15 then (0 : Int) else 2)
          split <;> decide
      · split
        · split <;> decide
        · split
          · split <;> decide
          · decide
theorem jf_nn {ops as bs : Int → Int} : ∀ n : Nat, 0 ≤ jf ops as bs n
  | 0 => Int.le_refl 0
  | n + 1 => by
    have ih := jf_nn (ops := ops) (as := as) (bs := bs) n
    by_cases h : jf ops as bs n = 0
    · by_cases b : jbad ops as bs n (js ops as bs n) = 0
      · show 0 ≤ (jst ops as bs (n + 1)).1
        rw [jst_g h b]; exact Int.le_refl 0
      · show 0 ≤ (jst ops as bs (n + 1)).1
        rw [jst_b h b]; exact jbad_nn
    · show 0 ≤ (jst ops as bs (n + 1)).1
      rw [jst_f h]; exact ih
theorem ap_run (x c : Int) : Ap (F_X11_run 0 x c) (F_X12_run 0 x c) := fun N hc hr N0 N1 R => by
  have R' := R
  obtain ⟨a1, a2, a3, a4, a5, a6, a7, a8, a9, a10, a11, a12⟩ := R'
  have a10' := a10
  obtain ⟨k1, k2, k3, k4⟩ := a10'
  have hz := zF_i
  have fin : ∀ (r : Int) (hc' hr' : zH), F_X11_run 0 x c hc = some (r, hc') → F_X12_run 0 x c hr = some (r, hr') → Rel (N + 1) hc' hr' → ∃ r hc' hr', F_X11_run 0 x c hc = some (r, hc') ∧ F_X12_run 0 x c hr = some (r, hr') ∧ Rel (N + 1) hc' hr' ∧ nn hc' ≤ nn hc + 8 ∧ us hc' ≤ us hc + 248 := fun r hc' hr' e1 e2 e3 => by
    have q := nf_X11_run e1
    exact ⟨r, hc', hr', e1, e2, e3, by rw [q.nn]; omega, by rw [q.us]; omega⟩
  by_cases y : 0 ≤ x ∧ x < gt hc 11 0 2
  · have y' : 0 ≤ x ∧ x < gt hr 12 0 16 := by rw [k1]; exact y
    have c1 : ¬ x + 1 = -1 := by omega
    have c2 : 0 ≤ x + 1 := by omega
    by_cases cw : 0 ≤ c ∧ c < 8
    · have cw' : 0 ≤ c ∧ c ≤ 7 := by omega
      obtain ⟨ops, as, bs, m, u1, u2, u3, u4, u5, u6, u7, hr1, v1, yy, v3, v4, v5⟩ := c_fault a10 y.1 y.2 a2
      by_cases z : jfn ops as bs m = 0
      · have sd : zSd ops as bs m := by
          unfold jfn at z
          by_cases w : jf ops as bs m ≠ 0
          · rw [if_pos w] at z; exact absurd z w
          · rw [if_neg w] at z
            have w : jf ops as bs m = 0 := by simpa using w
            by_cases v : js ops as bs m = []
            · exact ⟨w, v⟩
            · rw [if_neg v] at z; cases z
        rw [u3, u4, u5] at sd
        have Z : zS hc hr1 x m := ⟨y.1, y.2, by rw [yy 62 x (by simp) (by simp) 0]; exact u1, sd⟩
        obtain ⟨hc1, hr2, w1, w2, w3⟩ := m_begin (c := c) R N0 N1 cw.1 cw.2 yy v3 Z
        obtain ⟨v, hc2, hr3, t1, t2, t3⟩ := m_run 643 hc1 hr2 zF zF 0 w3 (by omega) (by omega) (Int.le_refl 0) (by decide)
        obtain ⟨hr4, s1, s2⟩ := fin_rel N0 t3
        refine fin v hc2 hr4 ?_ ?_ s2
        · unfold F_X11_run F_X11_run_0
          simp only [pc_11_1 a1, s_findScript a4 k3, s_within, zb, if_pos y, if_pos cw, if_pos c2, u6]
          simp [c1, z, pc_11_3 a1, w1, t1]
        · unfold F_X12_run F_X12_run_0
          simp only [s_noAct (h := hr) (n := x) (by omega) (by omega), s_in, if_pos y', if_pos cw', zb, v1, v4, z, zl]
          simp only [if_pos (Int.le_refl (0 : Int))]
          rw [t2, s1] at w2
          simpa [hR0, zb] using w2
      · have zz : ¬ jfn ops as bs m ≤ 0 := by
          have q := jf_nn (ops := ops) (as := as) (bs := bs) m
          have : 0 ≤ jfn ops as bs m := by
            unfold jfn
            split
            · exact q
            · split <;> decide
          omega
        obtain ⟨F, hF⟩ : ∃ F, F = jfn ops as bs m := ⟨_, rfl⟩
        rw [← hF] at u6 v4 z zz
        clear hF
        refine fin (-103) hc hr1 ?_ ?_ ?_
        · unfold F_X11_run F_X11_run_0
          simp only [pc_11_1 a1, s_findScript a4 k3, s_within, zb, if_pos y, if_pos cw, if_pos c2, u6]
          simp [c1, z]
        · unfold F_X12_run F_X12_run_0
          simp only [s_noAct (h := hr) (n := x) (by omega) (by omega), s_in, if_pos y', if_pos cw', zb, v1, v4]
          simp [zz]
        · have xx : zFx [] [] hc hc := zFx.rf hc
          exact ⟨a1, a2.fr yy rfl, a3, a4, a5.fr xx rfl yy rfl, a6.fr xx rfl yy rfl, a7.fr xx rfl yy rfl, (a8.fr xx rfl yy rfl).up (by omega), a9.fr xx rfl yy rfl, a10.fr xx rfl yy rfl, a11.fr xx rfl yy rfl, a12.fr xx rfl yy rfl⟩
    · have cw' : ¬ (0 ≤ c ∧ c ≤ 7) := by omega
      refine fin (-101) hc hr ?_ ?_ R.up
      · unfold F_X11_run F_X11_run_0
        simp only [pc_11_1 a1, s_findScript a4 k3, s_within, zb, if_pos y, if_neg cw]
        simp [c1]
      · unfold F_X12_run F_X12_run_0
        simp only [s_noAct (h := hr) (n := x) (by omega) (by omega), s_in, if_pos y', if_neg cw', zb]
        simp
  · have y' : ¬ (0 ≤ x ∧ x < gt hr 12 0 16) := by rw [k1]; exact y
    refine fin (-101) hc hr ?_ ?_ R.up
    · unfold F_X11_run F_X11_run_0
      simp only [pc_11_1 a1, s_findScript a4 k3, zb, if_neg y]
      simp
    · unfold F_X12_run F_X12_run_0
      simp only [s_noAct (h := hr) (n := x) (by omega) (by omega), if_neg y', zb]
      simp
