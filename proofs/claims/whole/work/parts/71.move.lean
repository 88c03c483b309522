/-! a MOVE without a LINE, on both sides -/
theorem m_mark {B : Int} {n : Nat} {S c : Int} {sid : Int → Int} {b : Nat} {k a : Int} {cx : zK} {hc hr : zH} {t m : Nat} (X : RB B n S c sid b k a cx hc hr) (W : WY hc hr) (w0 : gt hc 8 0 12 = 0) (p1 : gt hc 1 k 2 = t) (p2 : gt hr 72 0 a = t) (p3 : zS hc hr (gt hc 1 k 1) m) (p4 : t ≤ m) (p5 : zjs hc (gt hc 1 k 1) t = cx) (mk : t < m → zMk (gt hc 43 (gt hc 1 k 1 + 1) t)) :
    ∃ hc' hr', F_X8_reachMark 0 k hc = some (0, hc') ∧ F_X12_goOn 0 hr = some (0, hr') ∧ RES B c (2 * b + 4 * (160 - gt hc 8 0 14)) hc' hr' := by
  obtain ⟨x1, x2, x3, x4, x5, x6, x7, x8, x9, x10, x11, x12, x13, x14, x15, x16, x17, x18⟩ := X.at
  have C := X.1
  have a1 := C.1
  have a2 := C.2.1
  have a4 := C.2.2.2.1
  have R := C.2.2.2.2.2.2.2.2.2.1
  have go := r_on a2 R x3 x1 x2 x4 p2 p3 p4
  have b90 := X.at.2.2.2.2.2.2.2.2.2.2.1
  rw [go]
  by_cases e : t = m
  · -- behind the last LINE
    have en : cx = [] := by
      have := p3.2.2.2.2
      rw [← p5, e]; exact this
    rw [if_pos e]
    subst en
    obtain ⟨b', hb, h | ⟨L, M, cx', hx, _⟩⟩ := X.top
    · subst hb
      obtain ⟨h0, _⟩ := h
      have cm := (c_mark (k := k) a1 a4 (by rw [x16]; omega) (by omega) h0).1
      rw [if_neg (by decide), if_neg (by decide), if_neg (by decide)] at cm
      obtain ⟨hc', hh⟩ : ∃ hc', hc' = pt hc 8 0 12 1 := ⟨_, rfl⟩
      obtain ⟨hr', hk⟩ : ∃ hr', hr' = pt hr 12 0 52 1 := ⟨_, rfl⟩
      have xc : zFx [] [(8, 12)] hc hc' := by rw [hh]; exact (zFx.rf hc).p2 rfl
      have xr : zFx [] [(12, 52)] hr hr' := by rw [hk]; exact (zFx.rf hr).p2 rfl
      have v12 : gt hc' 8 0 12 = 1 := by rw [hh]; rfl
      have v52 : gt hr' 12 0 52 = 1 := by rw [hk]; rfl
      refine ⟨hc', hr', by rw [cm, hh], by rw [hk], Or.inl ⟨n, S, sid, b' + 1, k, a, [], ⟨X.fr xc rfl (by rw [hh]; exact frpN (frrN hc)) (fun _ _ => xc 1 2 (by simp) (by decide) _) xr rfl (fun j _ => ⟨xr 72 j (by simp) (by simp) 0, xr 73 j (by simp) (by simp) 0⟩), ⟨by rw [v12, v52], by rw [v12]; decide, by rw [v12]; decide, fun q => by rw [v12] at q; cases q⟩, fun q => by rw [v12] at q; cases q⟩, ?_⟩⟩
      have v14 : gt hc' 8 0 14 = gt hc 8 0 14 := xc 8 14 (by simp) (by decide) 0
      have n1 : ¬ gt hc' 8 0 12 = 0 := by rw [v12]; decide
      rw [if_neg n1, v14]; omega
    · cases hx
  · have tm : t < m := by omega
    rw [if_neg e]
    obtain ⟨j1, j2⟩ := js_s p3.2.2.2.1 tm
    have p5' : js (gt hc 43 (gt hc 1 k 1 + 1)) (gt hc 44 (gt hc 1 k 1 + 1)) (gt hc 45 (gt hc 1 k 1 + 1)) t = cx := p5
    rw [p5'] at j1 j2
    by_cases o : gt hc 43 (gt hc 1 k 1 + 1) t = 16
    · rw [if_pos o]
      rw [jnx_16 o] at j1
      have nn := jb16 j2 o
      obtain ⟨b', hb, ⟨h0, _, _, hx, _⟩ | ⟨L, M, cx', hx, h⟩⟩ := X.top
      · exact absurd hx nn
      · subst hb
        subst hx
        have q5 : zjs hc (gt hc 1 k 1) (t + 1) = cx' := j1
        rcases h with ⟨e1, em, e2, K⟩ | ⟨e1, em, e2, K⟩ | ⟨e1, e2, K⟩
        · have cm := (c_mark (k := k) a1 a4 (by rw [x16]; omega) (by omega) e1.2.1).1
          rw [if_neg (by decide), if_pos (by decide)] at cm
          obtain ⟨hc', hr', g1, g2, g3⟩ := k_scope X W w0 e1 e2 K p1 p3 tm q5
          exact ⟨hc', hr', by rw [cm, g1]; rfl, by rw [g2]; rfl, g3.up (by omega)⟩
        · have cm := (c_mark (k := k) a1 a4 (by rw [x16]; omega) (by omega) e1.2.1).1
          rw [if_pos (by decide)] at cm
          subst em
          obtain ⟨hc', hr', g1, g2, g3⟩ := k_loop X W w0 e1 e2 K p1 p3 tm q5
          exact ⟨hc', hr', by rw [cm, g1]; rfl, by rw [g2]; rfl, g3.up (by omega)⟩
        · have cm := (c_mark (k := k) a1 a4 (by rw [x16]; omega) (by omega) e1.2.1).1
          rw [if_neg (by decide), if_neg (by decide), if_pos (by decide)] at cm
          by_cases ph : gt hc 0 ((b' : Int) + 1) 3 = 2
          · have ph' : ¬ (gt hc 0 ((b' : Int) + 1) 3 ≠ 2) := by simpa using ph
            rw [if_neg ph'] at cm
            obtain ⟨hc', hr', g1, g2, g3⟩ := k_last X W w0 e1 e2 K ph p1 p3 tm q5
            exact ⟨hc', hr', by rw [cm, g1]; rfl, by rw [g2]; rfl, g3.up (by omega)⟩
          · rw [if_pos ph] at cm
            obtain ⟨hc', hr', g1, g2, g3⟩ := k_way X W w0 e1 e2 K ph p3 tm o p5 q5
            exact ⟨hc', hr', by rw [cm, g1]; rfl, by rw [g2]; rfl, g3.up (by omega)⟩
    · have o2 : gt hc 43 (gt hc 1 k 1 + 1) t = 14 ∨ gt hc 43 (gt hc 1 k 1 + 1) t = 15 := by
        rcases mk tm with z | z | z
        · exact Or.inl z
        · exact Or.inr z
        · exact absurd z o
      rw [if_neg o, if_pos o2]
      obtain ⟨e0, t0, q1, q2, q3⟩ := jb14 j2 o2
      obtain ⟨b', hb, ⟨h0, _, _, hx, _⟩ | ⟨L, M, cx', hx, h⟩⟩ := X.top
      · rw [hx] at q1; cases q1
      · subst hb
        subst hx
        injection q1 with q1 q1'
        rw [← q1] at q2 q3
        have q2 : gt hc 43 (gt hc 1 k 1 + 1) (L : Int) = 13 := q2
        have q3 : gt hc 43 (gt hc 1 k 1 + 1) (M : Int) ≠ 15 := q3
        rcases h with ⟨e1, em, e2, K⟩ | ⟨e1, em, e2, K⟩ | ⟨e1, e2, K⟩
        · have := e1.2.2.2.2.2.1; omega
        · have := e1.2.2.2.2.2.1; omega
        · have cm := (c_mark (k := k) a1 a4 (by rw [x16]; omega) (by omega) e1.2.1).1
          rw [if_neg (by decide), if_neg (by decide), if_pos (by decide)] at cm
          have ph : gt hc 0 ((b' : Int) + 1) 3 ≠ 2 := fun z => q3 (e2.2.2.1.mp z)
          rw [if_pos ph] at cm
          obtain ⟨hc', hr', g1, g2, g3⟩ := m_lw X W e1 e2 K ph
          exact ⟨hc', hr', by rw [cm, g1]; rfl, by rw [g2]; rfl, g3.up (by omega)⟩
theorem m_leave {B : Int} {n : Nat} {S c : Int} {sid : Int → Int} {b : Nat} {k a : Int} {cx : zK} {hc hr : zH} (X : RB B n S c sid b k a cx hc hr) (W : WY hc hr) (w0 : gt hc 8 0 12 ≠ 0) :
    ∃ hc', F_X8_leave 0 k hc = some (0, hc') ∧ ((∃ hr', F_X12_unwind 0 hr = some (0, hr') ∧ RES B c (2 * b - 1 + 4 * (160 - gt hc 8 0 14)) hc' hr') ∨
      (∃ hr1 hr', F_X12_unwind 0 hr = some (0, hr1) ∧ gt hr1 12 0 60 = 0 ∧ gt hr1 12 0 52 ≠ 0 ∧ F_X12_unwind 0 hr1 = some (0, hr') ∧ (RES B c (2 * b - 1 + 4 * (160 - gt hc 8 0 14)) hc' hr' ∨ EN B c hc' hr'))) := by
  obtain ⟨x1, x2, x3, x4, x5, x6, x7, x8, x9, x10, x11, x12, x13, x14, x15, x16, x17, x18⟩ := X.at
  have C := X.1
  have a1 := C.1
  have a2 := C.2.1
  have a4 := C.2.2.2.1
  obtain ⟨b', hb, ⟨h0, e1, ea, hx, a', cx', O, K⟩ | ⟨L, M, cx', hx, h⟩⟩ := X.top
  · subst hb
    subst hx
    have cm := (c_mark (k := k) a1 a4 (by rw [x16]; omega) (by omega) h0).2
    rw [if_neg (by decide), if_neg (by decide), if_neg (by decide)] at cm
    obtain ⟨hc', hr1, g1, g2, g3⟩ := m_act_out X W w0 e1 ea O K
    refine ⟨hc', by rw [cm, g1]; rfl, ?_⟩
    rcases g3 with ⟨g3, g4⟩ | ⟨g3, g4, hr', g5, g6⟩
    · exact Or.inl ⟨hr1, g2, Or.inr ⟨g3, g4⟩⟩
    · refine Or.inr ⟨hr1, hr', g2, g3, g4, g5, ?_⟩
      rcases g6 with g6 | g6
      · exact Or.inl (g6.up (by omega))
      · exact Or.inr g6
  · subst hb
    subst hx
    have ep : gt hr 12 0 25 - 1 = b' + k := by rw [x13]; omega
    have pb : 0 ≤ (b' : Int) + k ∧ (b' : Int) + k < 150 := by omega
    rcases h with ⟨e1, em, e2, K⟩ | ⟨e1, em, e2, K⟩ | ⟨e1, e2, K⟩
    · have cm := (c_mark (k := k) a1 a4 (by rw [x16]; omega) (by omega) e1.2.1).2
      rw [if_neg (by decide), if_pos (by decide)] at cm
      have ur := r_unw a2 ep pb e1.2.2.1 (Or.inl rfl)
      rw [if_pos rfl] at ur
      obtain ⟨hc', hr', g | g⟩ := m_scope X W e1 e2 K
      · obtain ⟨g1, g2, g3, g4, g5, g6, g7, g8, g9⟩ := g
        have nz : gt hc' 8 0 12 ≠ 0 := by rcases g9 with z | z <;> rw [z]; exact w0; decide
        rw [if_pos nz] at g1
        refine ⟨hc', by rw [cm, g1]; rfl, Or.inl ⟨hr', by rw [ur, g2]; rfl, Or.inl ⟨n, S - 1, sid, b', k, a, cx', ⟨g3, g4, fun v => absurd v nz⟩, ?_⟩⟩⟩
        have c14 : gt hc' 8 0 14 = gt hc 8 0 14 := g7 8 14 (by decide) (by decide) 0
        rw [if_neg nz, c14]; omega
      · obtain ⟨g1, g2, g3, g4⟩ := g
        exact ⟨hc', by rw [cm, g1]; rfl, Or.inl ⟨hr', by rw [ur, g2]; rfl, Or.inr ⟨g3, g4⟩⟩⟩
    · have cm := (c_mark (k := k) a1 a4 (by rw [x16]; omega) (by omega) e1.2.1).2
      rw [if_pos (by decide)] at cm
      obtain ⟨hc', hr', g1, g2, g3⟩ := m_loop_out X W w0 e1 K
      exact ⟨hc', by rw [cm, g1]; rfl, Or.inl ⟨hr', g2, g3.up (by omega)⟩⟩
    · have cm := (c_mark (k := k) a1 a4 (by rw [x16]; omega) (by omega) e1.2.1).2
      rw [if_neg (by decide), if_neg (by decide), if_pos (by decide)] at cm
      have ur := r_unw a2 ep pb e1.2.2.1 (Or.inr rfl)
      rw [if_neg (by decide)] at ur
      by_cases ph : gt hc 0 ((b' : Int) + 1) 3 = 2
      · obtain ⟨hc', hr', g1, g2, g3⟩ := m_last_out X W w0 e1 e2 K ph
        exact ⟨hc', by rw [cm, g1]; rfl, Or.inl ⟨hr', by rw [ur, g2]; rfl, g3.up (by omega)⟩⟩
      · obtain ⟨hc', hr', g1, g2, g3⟩ := m_try_out X W w0 e1 e2 K ph
        exact ⟨hc', by rw [cm, g1]; rfl, Or.inl ⟨hr', by rw [ur, g2]; rfl, g3.up (by omega)⟩⟩
