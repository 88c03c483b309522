/-! a RUN's moves, one after another, on both sides -/
theorem m_run {B c : Int} : ∀ (z : Nat) (hc hr : zH) (fc fr : Nat) (i : Int), RES B c z hc hr → z + 1 < fc → 2 * z + 2 < fr → 0 ≤ i → i + z < 1000000 →
    ∃ v hc' hr', F_X8_perform_21 fc 0 i hc = some (v, hc') ∧ F_X12_run_129 fr 0 c hr = F_X12_run_159 zF 0 c 0 hr' ∧ FIN B c v hc' hr' := by
  intro z
  induction z with
  | zero =>
    intro hc hr fc fr i R f1 f2 i0 i1
    rcases R with ⟨n, S, sid, b, k, a, cx, U, q⟩ | ⟨O, o60⟩
    · have b1 := U.1.at.2.2.2.2.2.2.2.2.2.2.2.2.2.2.2.2.2
      have s1 := U.1.2.2.2.2.1.2.2.2.1
      have : 0 ≤ (if gt hc 8 0 12 = 0 then (1 : Int) else 0) := by split <;> decide
      omega
    · obtain ⟨fc', rfl⟩ : ∃ f, fc = f + 1 := ⟨fc - 1, by omega⟩
      obtain ⟨fr', rfl⟩ : ∃ f, fr = f + 1 := ⟨fr - 1, by omega⟩
      obtain ⟨v, hc', g1, g2⟩ := f_ov O
      exact ⟨v, hc', hr, by rw [c_end fc' (Or.inr O.1), g1], r_end fr' o60, g2⟩
  | succ z ih =>
    intro hc hr fc fr i R f1 f2 i0 i1
    obtain ⟨fc', rfl⟩ : ∃ f, fc = f + 1 := ⟨fc - 1, by omega⟩
    obtain ⟨fr', rfl⟩ : ∃ f, fr = f + 1 := ⟨fr - 1, by omega⟩
    rcases R with ⟨n, S, sid, b, k, a, cx, ⟨X, W, P⟩, q⟩ | ⟨O, o60⟩
    · obtain ⟨x1, x2, x3, x4, x5, x6, x7, x8, x9, x10, x11, x12, x13, x14, x15, x16, x17, x18⟩ := X.at
      have C := X.1
      have a1 := C.1
      have a2 := C.2.1
      have a4 := C.2.2.2.1
      have Rs := C.2.2.2.2.2.2.2.2.2.1
      obtain ⟨_, _, _, ⟨mx, sx⟩, _⟩ := X.2.2.1.ac x7
      obtain ⟨g12, g40, g4, _, _⟩ := sx.e Rs
      have ac0 := sx.1
      have acn := sx.2.1
      have n4 : gt hc 8 0 12 ≠ 4 := by have := W.2.2.1; omega
      have o60 : gt hr 12 0 60 = 0 := X.2.2.2.2.1.1.2.2.2.2.2.2.1
      obtain ⟨sO, _, _, _⟩ := s_at4 (k := gt hc 1 k 2) a4 (show 1 ≤ gt hc 1 k 1 + 1 by omega) (show gt hc 1 k 1 + 1 ≤ gt hc 11 0 2 by omega) (by rw [g4]; omega)
      obtain ⟨op, hop⟩ : ∃ op, op = (if 0 ≤ gt hc 1 k 2 ∧ gt hc 1 k 2 < gt hc 10 (gt hc 1 k 1 + 1) 4 then gt hc 43 (gt hc 1 k 1 + 1) (gt hc 1 k 2) else -1) := ⟨_, rfl⟩
      rw [← hop] at sO
      have it := c_it (op := op) fc' a1 a4 x15 x7 x8 n4 i0 (by omega) x6 ac0 rfl sO
      by_cases w0 : gt hc 8 0 12 = 0
      · have w52 : gt hr 12 0 52 = 0 := by rw [← W.1]; exact w0
        obtain ⟨t, m, p1, p2, p3, p4, p5⟩ := P w0
        rw [if_pos w0] at it q
        rw [p1, (p3.e Rs).2.2.1] at hop
        have em : op = if t < m then gt hc 43 (gt hc 1 k 1 + 1) t else -1 := by
          rw [hop]
          by_cases y : t < m
          · rw [if_pos y, if_pos ⟨by omega, by omega⟩]
          · have y' : ¬ (0 ≤ (t : Int) ∧ (t : Int) < (m : Int)) := by omega
            rw [if_neg y, if_neg y']
        clear hop
        by_cases mk : op = -1 ∨ zMk op
        · rw [if_pos mk] at it
          obtain ⟨hc1, hr1, u1, u2, u3⟩ := m_mark X W w0 p1 p2 p3 p4 p5 (fun y => by
            rw [if_pos y] at em
            have bz := (zj_b p3 y).1
            rw [← em] at bz ⊢
            rcases mk with v | v
            · omega
            · exact v)
          obtain ⟨v, hc', hr', y1, y2, y3⟩ := ih hc1 hr1 fc' fr' (i + 1) (u3.up (by omega)) (by omega) (by omega) (by omega) (by omega)
          exact ⟨v, hc', hr', by rw [it, u1]; exact y1, by rw [r_go fr' o60 w52 u2]; exact y2, y3⟩
        · rw [if_neg mk] at it
          have tm : t < m := by
            refine Classical.byContradiction fun y => mk (Or.inl ?_)
            rw [em, if_neg y]
          rw [if_pos tm] at em
          have nm : ¬ zMk op := fun v => mk (Or.inr v)
          have go := r_on a2 Rs x3 x1 x2 x4 p2 p3 p4
          have ne : ¬ t = m := by omega
          have no6 : ¬ gt hc 43 (gt hc 1 k 1 + 1) t = 16 := fun v => nm (by rw [em]; exact Or.inr (Or.inr v))
          have no4 : ¬ (gt hc 43 (gt hc 1 k 1 + 1) t = 14 ∨ gt hc 43 (gt hc 1 k 1 + 1) t = 15) := fun v => nm (by rw [em]; rcases v with v | v; exact Or.inl v; exact Or.inr (Or.inl v))
          rw [if_neg ne, if_neg no6, if_neg no4] at go
          obtain ⟨k1, k2, k3, k4, k5, k6, k7, k8, k9, k10, k11, k12, k13⟩ := X.2.2.2.2.1.2
          rcases m_step k1 k2 k3 X.sp (by rw [x15]; exact x7) with ⟨u1, u2, u3⟩ | ⟨u1, hr1, u2, u3, u4⟩
          · rw [u2] at it
            rw [u3] at go
            have n10 : ¬ ((1 : Int) = 0) := by decide
            simp only [zb] at it go
            rw [if_neg n10] at it go
            have X1 := X.st u1
            obtain ⟨st, hst⟩ : ∃ st, st = gt hc 8 0 14 + 1 := ⟨_, rfl⟩
            rw [← hst] at X1 it go
            obtain ⟨hc1, h1⟩ : ∃ hc1, hc1 = pt hc 8 0 14 st := ⟨_, rfl⟩
            obtain ⟨hr1, e1⟩ : ∃ hr1, hr1 = pt hr 12 0 55 st := ⟨_, rfl⟩
            rw [← h1] at X1 it
            rw [← e1] at X1 go
            have xh : zFx [] [(8, 14)] hc hc1 := by rw [h1]; exact (zFx.rf hc).p2 rfl
            have xk : zFx [] [(12, 55)] hr hr1 := by rw [e1]; exact (zFx.rf hr).p2 rfl
            have d2 := a2.fr xk rfl
            have t67 : gt hr1 12 0 67 = a := (xk 12 67 (by simp) (by decide) 0).trans x3
            rw [pr_31 d2, if_pos (Int.le_refl 0), t67, if_pos ⟨x1, x2⟩] at go
            obtain ⟨h, hh⟩ : ∃ h, h = pt hr1 73 0 a t := ⟨_, rfl⟩
            rw [← hh] at go
            obtain ⟨hrL, hL⟩ : ∃ hrL, hrL = pt h 72 0 a ((t : Int) + 1) := ⟨_, rfl⟩
            have xl : zFx [72, 73] [] hr1 hrL := by rw [hL, hh]; exact ((zFx.rf hr1).p1 rfl).p1 rfl
            have v7 : ∀ j, (gt hrL 72 0 j = if j = a then (t : Int) + 1 else gt hr1 72 0 j) ∧ (gt hrL 73 0 j = if j = a then (t : Int) else gt hr1 73 0 j) := fun j => by
              rw [hL, hh]; by_cases y : j = a <;> simp [gt_pt, y]
            have XL : RB B n S c sid b k a cx hc1 hrL := X1.fr (lc := []) (mc := []) (zFx.rf hc1) rfl (frrN hc1) (fun _ _ => rfl) xl rfl (fun j y => ⟨by rw [(v7 j).1, if_neg y], by rw [(v7 j).2, if_neg y]⟩)
            have g11 : gt hc1 1 k 1 = gt hc 1 k 1 := xh 1 1 (by simp) (by decide) k
            have v14 : gt hc1 8 0 14 = st := by rw [h1]; rfl
            have e43 : gt hc1 43 = gt hc 43 := by funext i j; exact xh 43 j (by simp) (by simp) i
            have I : LI k a t m cx hc1 hrL := ⟨(xh 1 2 (by simp) (by decide) k).trans p1, by rw [(v7 a).1, if_pos rfl], by rw [(v7 a).2, if_pos rfl], by rw [g11]; exact (p3.fr xh rfl xk rfl).fr (lc := []) (mc := []) (zFx.rf hc1) rfl xl rfl, tm, by rw [g11, zjs.fr xh rfl]; exact p5, (xh 8 12 (by simp) (by decide) 0).trans w0, by rw [xl 12 52 (by simp) (by simp) 0, xk 12 52 (by simp) (by decide) 0]; exact w52⟩
            have E : SX n b hc1 hrL := by
              unfold SX
              rw [v14, hst, xl 12 43 (by simp) (by simp) 0, xk 12 43 (by simp) (by decide) 0, xh 8 16 (by simp) (by decide) 0, xl 12 44 (by simp) (by simp) 0, xk 12 44 (by simp) (by decide) 0]
              exact ⟨by omega, by omega, by omega, by omega⟩
            have dh : PIr h := d2.fr (l := [73]) (m := []) (by rw [hh]; exact (zFx.rf hr1).p1 rfl) rfl
            obtain ⟨hc2, hr2, w1, w2, w3⟩ := m_line XL I E dh hL (by rw [g11, e43]; exact em.symm) nm
            rw [g11] at w2
            rw [w1] at it
            rw [w2] at go
            obtain ⟨v, hc', hr', y1, y2, y3⟩ := ih hc2 hr2 fc' fr' (i + 1) (w3.up (by rw [v14, hst]; omega)) (by omega) (by omega) (by omega) (by omega)
            exact ⟨v, hc', hr', by rw [it]; exact y1, by rw [r_go fr' o60 w52 go]; exact y2, y3⟩
          · rw [u1] at it
            rw [u2] at go
            simp only [zb] at it go
            rw [if_pos trivial] at it go
            obtain ⟨v, hc', hr', y1, y2, y3⟩ := ih (pt hc 8 0 12 4) hr1 fc' fr' (i + 1) (Or.inr ⟨u3, u4⟩) (by omega) (by omega) (by omega) (by omega)
            exact ⟨v, hc', hr', by rw [it]; exact y1, by rw [r_go fr' o60 w52 go]; exact y2, y3⟩
      · rw [if_neg w0] at it q
        have w52 : gt hr 12 0 52 ≠ 0 := by rw [← W.1]; exact w0
        obtain ⟨hc1, u1, ⟨hr1, u2, u3⟩ | ⟨hr0, hr1, u2, u3, u4, u5, u6⟩⟩ := m_leave X W w0
        · obtain ⟨v, hc', hr', y1, y2, y3⟩ := ih hc1 hr1 fc' fr' (i + 1) (u3.up (by omega)) (by omega) (by omega) (by omega) (by omega)
          exact ⟨v, hc', hr', by rw [it, u1]; exact y1, by rw [r_un fr' o60 w52 u2]; exact y2, y3⟩
        · obtain ⟨fr2, rfl⟩ : ∃ f, fr' = f + 1 := ⟨fr' - 1, by omega⟩
          rcases u6 with u6 | u6
          · obtain ⟨v, hc', hr', y1, y2, y3⟩ := ih hc1 hr1 fc' fr2 (i + 1) (u6.up (by omega)) (by omega) (by omega) (by omega) (by omega)
            exact ⟨v, hc', hr', by rw [it, u1]; exact y1, by rw [r_un (fr2 + 1) o60 w52 u2, r_un fr2 u3 u4 u5]; exact y2, y3⟩
          · obtain ⟨fr3, rfl⟩ : ∃ f, fr2 = f + 1 := ⟨fr2 - 1, by omega⟩
            obtain ⟨fc2, rfl⟩ : ∃ f, fc' = f + 1 := ⟨fc' - 1, by omega⟩
            obtain ⟨v, hc', g1, g2⟩ := f_en u6
            refine ⟨v, hc', hr1, ?_, ?_, g2⟩
            · rw [it, u1]
              show F_X8_perform_21 (fc2 + 1) 0 (i + 1) hc1 = _
              obtain ⟨_, _, _, _, e3, _⟩ := u6
              rw [c_end fc2 (Or.inl (by omega)), g1]
            · obtain ⟨_, _, _, _, _, e4, _⟩ := u6
              rw [r_un (fr3 + 1 + 1) o60 w52 u2, r_un (fr3 + 1) u3 u4 u5, r_end fr3 e4]
    · obtain ⟨v, hc', g1, g2⟩ := f_ov O
      exact ⟨v, hc', hr, by rw [c_end fc' (Or.inr O.1), g1], r_end fr' o60, g2⟩
