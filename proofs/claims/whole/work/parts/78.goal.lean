/-! the LAW answers 1 -/
theorem law_loop {X : Int → Int → Int} (L1 : X 0 (-1) ≤ 2560) (L0 : 0 ≤ X 0 (-1)) : ∀ (z f : Nat) (l3 N : Int) (h : zH), X 0 (-1) - l3 ≤ 5 * z → z < f → 0 ≤ l3 → 0 ≤ N → N + z ≤ 1000 → Rel N h h → gt h 103 = X → ∃ h', F_L_law_18 f 0 0 l3 h = some (1, h') ∧ nn h' ≤ nn h + 8 * z ∧ us h' ≤ us h + 248 * z
  | z, 0, l3, N, h, _, hf, _, _, _, _, _ => by omega
  | z, f + 1, l3, N, h, hz, hf, i0, N0, N1, R, hX => by
    have st : F_L_law_18 (f + 1) 0 0 l3 h = F_L_law_18b (F_L_law_18 f) 0 0 l3 h := rfl
    rw [st]
    by_cases e : X 0 (-1) - 5 < l3
    · have w0 : wI (X 0 (-1) - 5) = X 0 (-1) - 5 := wI_s ⟨by omega, by omega⟩
      refine ⟨h, ?_, by omega, by omega⟩
      unfold F_L_law_18b
      rw [hX, w0, if_pos e]
    · match z, hz, hf, N1 with
      | 0, hz, hf, N1 => omega
      | z + 1, hz, hf, N1 =>
        obtain ⟨h2, e1, g1, R', n', u'⟩ := law_it (ag := F_L_law_18 f) N0 (by omega) R hX L1 i0 (by omega)
        obtain ⟨h', s1, s2, s3⟩ := law_loop L1 L0 z f (l3 + 5) (N + 1) h2 (by omega) (by omega) (by omega) (by omega) (by omega) R' g1
        exact ⟨h', by rw [e1]; exact s1, by omega, by omega⟩
theorem zGoal_proved : zGoal := fun L xs hL => by
  obtain ⟨H1, H, e1, e2, e3, R, n, u, g⟩ := start_rel L xs
  have hz := zF_i
  have c11 : cn (h00 L xs) 11 = 0 := rfl
  have xL : gt (h00 L xs) 103 0 (-1) = (L : Int) := rfl
  obtain ⟨h', s1, s2, s3⟩ := law_loop (X := gt (h00 L xs) 103) (by rw [xL]; omega) (by rw [xL]; omega) 512 zF 0 0 H (by rw [xL]; omega) (by omega) (Int.le_refl 0) (Int.le_refl 0) (by decide) R g
  refine ⟨h', ?_, by omega, by omega⟩
  unfold F_L_law_0
  rw [c11, if_pos (Int.le_refl 0), e1]
  simp only [zb]
  rw [e2, if_pos (Int.le_refl 0), e3]
  exact s1
