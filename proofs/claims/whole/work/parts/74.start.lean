/-! a RUN begins, on both sides -/
abbrev mSc : List (Nat × Int) := [(8, 3), (8, 5), (8, 7), (8, 9), (8, 11), (8, 12), (8, 13), (8, 14), (8, 15), (8, 16), (2, 6)]
abbrev mSr : List (Nat × Int) := [(12, 21), (12, 22), (12, 25), (12, 33), (12, 34), (12, 43), (12, 44), (12, 45), (12, 52), (12, 53), (12, 54), (12, 55), (12, 56), (12, 57), (12, 58), (12, 59), (12, 60), (12, 61)]
theorem cr0 {N c : Int} {hc hr hc1 hr1 : zH} (sid : Int → Int) (R : Rel N hc hr) (N0 : 0 ≤ N) (N1 : N ≤ 1000) (c0 : 0 ≤ c) (c8 : c < 8) (xc : zFx [] mSc hc hc1) (nc : FrN hc hc1) (xr : zFx [66, 67] mSr hr hr1)
    (v : gt hc1 8 0 9 = 0 ∧ gt hr1 12 0 34 = 0 ∧ gt hr1 12 0 56 = 0 ∧ gt hc1 8 0 11 = c ∧ gt hr1 12 0 61 = c) : CR (200 * N) 0 0 c sid hc1 hr1 := by
  obtain ⟨a1, a2, a3, a4, a5, a6, a7, a8, a9, a10, a11, a12⟩ := R
  obtain ⟨v1, v2, v3, v4, v5⟩ := v
  have k := a12.fr xc rfl xr rfl
  obtain ⟨k1, k2, k3, k4, k5, k6⟩ := k
  have z0 : zSum (gt hr1 80 0) 0 = 0 := rfl
  have l0 : zLc hr1 0 = 0 := rfl
  refine ⟨a1.fr xc rfl, a2.fr xr rfl, a3.fr xc rfl, a4.fr xc rfl nc.1, a5.fr xc rfl xr rfl, a6.fr xc rfl xr rfl, a7.fr xc rfl xr rfl, (a8.fr xc rfl xr rfl).up (by rw [z0]; omega), a9.fr xc rfl xr rfl, a10.fr xc rfl xr rfl, ⟨v1, v2, v3, by decide, v4, v5, c0, c8, by omega, by omega⟩, ⟨fun l b0 b1 => by omega, fun p q _ _ b0 b1 => by omega, fun l b => by have := b.1; have := b.2.1; omega, fun s s1 s2 => by omega⟩, ⟨fun l b => by have := b.1; have := b.2.1; omega, fun l l' b => by have := b.1; have := b.2.1; omega, fun p p0 p1 p2 => Or.inl (k6 p p0 p1 p2)⟩, ⟨by rw [l0]; omega, fun l b => by omega, fun i i0 i1 => ?_, fun i j i0 ij j1 => ?_⟩, ⟨by omega, k4, k5⟩, fun l b => by have := b.1; have := b.2.1; omega⟩
  · obtain ⟨y1, y2, y3, y4, _⟩ := k4 i i0 (by omega)
    rw [y1]
    exact ⟨y2, y3, y4, fun l b => by have := b.1; have := b.2.1; omega⟩
  · rw [(k4 i i0 (by omega)).1, (k4 j (by omega) (by omega)).1]
    exact k5 i j i0 ij (by omega)
/-- the class's fields at the beginning -/
theorem c_reset {h : zH} {c : Int} (a1 : PIc h) : ∃ h', F_X8_reset 0 c h = some (0, h') ∧ zFx [] mSc h h' ∧ FrN h h' ∧ gt h' 8 0 3 = 0 ∧ gt h' 8 0 5 = 0 ∧ gt h' 8 0 7 = 0 ∧ gt h' 8 0 9 = 0 ∧ gt h' 8 0 11 = c ∧ gt h' 8 0 12 = 0 ∧ gt h' 8 0 13 = -1 ∧ gt h' 8 0 14 = 0 ∧ gt h' 8 0 15 = 0 ∧ gt h' 8 0 16 = 0 ∧ gt h' 2 0 6 = 0 := by
  obtain ⟨h', hh⟩ : ∃ h', h' = pt (pt (pt (pt (pt (pt (pt (pt (pt (pt (pt h 8 0 11 c) 8 0 3 0) 8 0 5 0) 8 0 7 0) 8 0 9 0) 2 0 6 0) 8 0 12 0) 8 0 13 (-1)) 8 0 14 0) 8 0 15 0) 8 0 16 0 := ⟨_, rfl⟩
  have e10 : gt (pt (pt (pt (pt (pt h 8 0 11 c) 8 0 3 0) 8 0 5 0) 8 0 7 0) 8 0 9 0) 8 0 10 = 0 := pc_8_10 a1
  refine ⟨h', ?_, ?_, ?_, ?_⟩
  · unfold F_X8_reset F_X8_reset_0
    rw [if_pos (Int.le_refl 0), e10, if_pos (Int.le_refl 0), hh]
    rfl
  · rw [hh]
    exact (((((((((((zFx.rf h : zFx [] mSc h h).p2 rfl).p2 rfl).p2 rfl).p2 rfl).p2 rfl).p2 rfl).p2 rfl).p2 rfl).p2 rfl).p2 rfl).p2 rfl
  · rw [hh]
    exact frpN (frpN (frpN (frpN (frpN (frpN (frpN (frpN (frpN (frpN (frpN (frrN h)))))))))))
  · rw [hh]
    exact ⟨rfl, rfl, rfl, rfl, rfl, rfl, rfl, rfl, rfl, rfl, rfl⟩
/-- the reference's -/
def hR0 (h : zH) (c : Int) : zH := pt (pt (pt (pt (pt (pt (pt (pt (pt (pt (pt (pt (pt (pt (pt (pt h 12 0 25 0) 12 0 33 0) 12 0 34 0) 12 0 43 0) 12 0 44 0) 12 0 45 0) 12 0 52 0) 12 0 53 (-1)) 12 0 54 0) 12 0 55 0) 12 0 56 0) 12 0 57 0) 12 0 58 0) 12 0 59 (-1)) 12 0 60 0) 12 0 61 c
theorem r_reset {h : zH} {c : Int} : zFx [] mSr h (hR0 h c) ∧ FrN h (hR0 h c) ∧ gt (hR0 h c) 12 0 25 = 0 ∧ gt (hR0 h c) 12 0 33 = 0 ∧ gt (hR0 h c) 12 0 34 = 0 ∧ gt (hR0 h c) 12 0 43 = 0 ∧ gt (hR0 h c) 12 0 44 = 0 ∧ gt (hR0 h c) 12 0 45 = 0 ∧ gt (hR0 h c) 12 0 52 = 0 ∧ gt (hR0 h c) 12 0 55 = 0 ∧ gt (hR0 h c) 12 0 56 = 0 ∧ gt (hR0 h c) 12 0 58 = 0 ∧ gt (hR0 h c) 12 0 59 = -1 ∧ gt (hR0 h c) 12 0 60 = 0 ∧ gt (hR0 h c) 12 0 61 = c := by
  refine ⟨?_, ?_, rfl, rfl, rfl, rfl, rfl, rfl, rfl, rfl, rfl, rfl, rfl, rfl, rfl⟩
  · unfold hR0
    exact ((((((((((((((((zFx.rf h : zFx [] mSr h h).p2 rfl).p2 rfl).p2 rfl).p2 rfl).p2 rfl).p2 rfl).p2 rfl).p2 rfl).p2 rfl).p2 rfl).p2 rfl).p2 rfl).p2 rfl).p2 rfl).p2 rfl).p2 rfl
  · unfold hR0
    exact frpN (frpN (frpN (frpN (frpN (frpN (frpN (frpN (frpN (frpN (frpN (frpN (frpN (frpN (frpN (frpN (frrN h))))))))))))))))
/-- from the call to the first move -/
theorem m_begin {N c x : Int} {m : Nat} {hc hr hr1 : zH} (R : Rel N hc hr) (N0 : 0 ≤ N) (N1 : N ≤ 1000) (c0 : 0 ≤ c) (c8 : c < 8) (xj : zFx [66, 67] [(12, 21), (12, 22)] hr hr1) (nj : FrN hr hr1) (Z : zS hc hr1 x m) :
    ∃ hc' hr', F_X8_perform 0 x c hc = F_X8_perform_21 zF 0 0 hc' ∧ zb (F_X12_beginAct 0 x (-1) (hR0 hr1 c)) (fun _ h10 => zb (F_X12_goTo 0 0 h10) (fun _ h11 => F_X12_run_129 zF 0 c h11)) = F_X12_run_129 zF 0 c hr' ∧ RES (200 * N) c 643 hc' hr' := by
  obtain ⟨hc1, u0, xc, nc, u3, u5, u7, u9, u11, u12, u13, u14, u15, u16, u26⟩ := c_reset (c := c) R.1
  obtain ⟨xr, nr, w25, w33, w34, w43, w44, w45, w52, w55, w56, w58, w59, w60, w61⟩ := r_reset (h := hr1) (c := c)
  have xr' : zFx [66, 67] mSr hr (hR0 hr1 c) := (xj.wk rfl rfl).tr (xr.wk rfl rfl)
  have C := cr0 (fun _ => 0) R N0 N1 c0 c8 xc nc xr' ⟨u9, w34, w56, u11, w61⟩
  have F : RF hc1 (hR0 hr1 c) := ⟨by rw [u26, w45], by rw [u26]; decide, by rw [u26]; decide, fun i i0 i1 => by rw [u26] at i1; omega⟩
  have Z1 : zS hc1 (hR0 hr1 c) x m := Z.fr xc rfl xr rfl
  have n3 := C.2.2.2.2.2.2.2.2.2.1.2.2.1
  obtain ⟨hc', hr', e1, e2, e3, e4, e5, e6, e7, e8⟩ := m_enter (n := 0) (S := 0) (b := 0) (k := 0) (a := -1) (cx := []) (fi := -1) (ac := x) C F ⟨rfl, rfl, rfl, rfl⟩ (fun i j i1 i2 i3 => by omega) (Or.inl rfl) ⟨u3, u5, u7, w25, w33, w60, w59⟩ (by decide) (by
    rw [u14, w55, w43, u16, w58, w44, u15]
    exact ⟨rfl, by decide, by decide, by decide, by decide, by decide, rfl, by decide, by decide, by decide, by decide, by decide, fun z => by omega, fun i i1 i2 => by omega⟩) (fun i s i1 i2 => by omega) (by decide) (by decide) Z1
  obtain ⟨x1, x2, x3, x4, x5, x6, x7, x8, x9, x10, x11, x12, x13, x14, x15, x16, x17, x18⟩ := e3.at
  have d2 := e3.1.2.1
  have g12 : gt hc' 8 0 12 = 0 := (e4 8 12 (by simp) (by decide) 0).trans u12
  have g52 : gt hr' 12 0 52 = 0 := (e5 12 52 (by simp) (by decide) 0).trans w52
  have g14 : gt hc' 8 0 14 = 0 := (e4 8 14 (by simp) (by decide) 0).trans u14
  have go := s_goTo (x := 0) d2 x3 x1 x2
  obtain ⟨hr2, k2⟩ : ∃ hr2, hr2 = pt hr' 72 0 (((0 : Nat) : Int) + 0) 0 := ⟨_, rfl⟩
  have xk : zFx [72] [] hr' hr2 := by rw [k2]; exact (zFx.rf hr').p1 rfl
  have X2 := e3.fr (lc := []) (mc := []) (zFx.rf hc') rfl (frrN hc') (fun _ _ => rfl) xk rfl (fun j z => ⟨by rw [k2, gt_pt]; exact if_neg (fun v => z v.2.2), xk 73 j (by simp) (by simp) 0⟩)
  refine ⟨hc', hr2, ?_, ?_, Or.inl ⟨0, 0 + 1, _, 0 + 1, 0 + 1, _, [], ⟨X2, ⟨by rw [g12, xk 12 52 (by simp) (by simp) 0, g52], by rw [g12]; decide, by rw [g12]; decide, fun v => by omega⟩, fun _ => ⟨0, m, e6, ?_, ?_, Nat.zero_le _, rfl⟩⟩, ?_⟩⟩
  · have fs : F_X11_findScript (gt hc1 8 0 1) x hc1 = some (x + 1, hc1) := by
      have f := s_findScript (n := x) C.2.2.2.1 n3
      rw [pc_8_1 C.1, f, if_pos ⟨Z1.1, Z1.2.1⟩]
    unfold F_X8_perform F_X8_perform_0
    rw [if_pos (Int.le_refl 0), u0]
    simp only [zb]
    rw [fs]
    simp only []
    rw [e1]
  · rw [e2]
    simp only [zb]
    rw [go, k2]
  · rw [k2]; simp [gt_pt]
  · rw [e8]; exact (Z1.fr e4 rfl e5 rfl).fr (lc := []) (mc := []) (zFx.rf hc') rfl xk rfl
  · rw [if_pos g12, g14]; decide
