/-! all moves of a RUN, on both sides -/
def FIN (B c v : Int) (hc hr : zH) : Prop := ∃ (n : Nat) (sid : Int → Int), CR B n 0 c sid hc hr ∧ RF hc hr ∧ gt hc 8 0 17 = v ∧ gt hr 12 0 54 = v ∧ gt hc 8 0 14 = gt hr 12 0 55 ∧ gt hc 8 0 16 = gt hr 12 0 58 ∧ gt hr 12 0 44 = gt hc 8 0 15 ∧ (if v = 1 then gt hc 8 0 13 else -1) = gt hr 12 0 59
theorem f_ov {B c : Int} {hc hr : zH} (O : OV B c hc hr) : ∃ v hc', F_X8_perform_141 0 hc = some (v, hc') ∧ FIN B c v hc' hr := by
  obtain ⟨o1, o2, hr1, o3, o4⟩ := O
  obtain ⟨hc1, hr', n, sid, g1, g2, g3, g4, g5, g6, g7, g8, g9, g10⟩ := o3.go
  rw [g2] at o4
  injection o4 with o4
  injection o4 with _ o4
  subst o4
  have n0 : ¬ gt hc 8 0 3 ≤ 0 := by omega
  obtain ⟨hc2, h2⟩ : ∃ hc2, hc2 = pt hc1 8 0 17 2 := ⟨_, rfl⟩
  have x : zFx [] [(8, 17)] hc1 hc2 := by rw [h2]; exact (zFx.rf hc1).p2 rfl
  refine ⟨2, hc2, ?_, n, sid, g3.fr x rfl (by rw [h2]; exact frpN (frrN hc1)) (zFx.rf (l := []) (m := []) hr') rfl, g4.fr x rfl (zFx.rf (l := []) (m := []) hr') rfl, by rw [h2]; rfl, g6, ?_, ?_, ?_, ?_⟩
  · unfold F_X8_perform_141
    rw [if_pos (Int.le_refl 0), if_neg n0, g1]
    simp only [zb]
    rw [h2]; rfl
  · rw [x 8 14 (by simp) (by decide) 0]; exact g8
  · rw [x 8 16 (by simp) (by decide) 0]; exact g9
  · rw [x 8 15 (by simp) (by decide) 0]; exact g10
  · rw [if_neg (by decide)]; exact g7.symm
theorem f_en {B c : Int} {hc hr : zH} (E : EN B c hc hr) : ∃ v hc', F_X8_perform_141 0 hc = some (v, hc') ∧ FIN B c v hc' hr := by
  obtain ⟨n, sid, e1, e2, e3, e4, e5, e6, e7, e8, e9, e10⟩ := E
  have n0 : gt hc 8 0 3 ≤ 0 := by omega
  obtain ⟨v, hv⟩ : ∃ v : Int, v = if gt hc 8 0 12 = 3 then 1 else 0 := ⟨_, rfl⟩
  obtain ⟨hc2, h2⟩ : ∃ hc2, hc2 = pt hc 8 0 17 v := ⟨_, rfl⟩
  have x : zFx [] [(8, 17)] hc hc2 := by rw [h2]; exact (zFx.rf hc).p2 rfl
  refine ⟨v, hc2, ?_, n, sid, e1.fr x rfl (by rw [h2]; exact frpN (frrN hc)) (zFx.rf (l := []) (m := []) hr) rfl, e2.fr x rfl (zFx.rf (l := []) (m := []) hr) rfl, by rw [h2]; rfl, by rw [e9, hv], ?_, ?_, ?_, ?_⟩
  · unfold F_X8_perform_141
    rw [if_pos (Int.le_refl 0), if_pos n0, h2, hv]
    by_cases z : gt hc 8 0 12 = 3
    · have z' : ¬ (gt hc 8 0 12 ≠ 3) := by simpa using z
      rw [if_neg z', if_pos z]; rfl
    · rw [if_pos z, if_neg z]; rfl
  · rw [x 8 14 (by simp) (by decide) 0]; exact e5
  · rw [x 8 16 (by simp) (by decide) 0]; exact e6
  · rw [x 8 15 (by simp) (by decide) 0]; exact e7
  · rw [x 8 13 (by simp) (by decide) 0, e10, hv]
    by_cases z : gt hc 8 0 12 = 3
    · rw [if_pos z, if_pos z, if_pos rfl]
    · rw [if_neg z, if_neg z, if_neg (by decide)]
theorem r_end {c : Int} {hr : zH} (f : Nat) (e : gt hr 12 0 60 = 1) : F_X12_run_129 (f + 1) 0 c hr = F_X12_run_159 zF 0 c 0 hr := by
  show F_X12_run_129b (F_X12_run_129 f) 0 c hr = _
  have z : gt hr 12 0 60 ≠ 0 := by omega
  unfold F_X12_run_129b
  rw [if_pos (Int.le_refl 0), if_pos z]
theorem r_un {c : Int} {hr hr' : zH} (f : Nat) (e : gt hr 12 0 60 = 0) (w : gt hr 12 0 52 ≠ 0) (u : F_X12_unwind 0 hr = some (0, hr')) : F_X12_run_129 (f + 1) 0 c hr = F_X12_run_129 f 0 c hr' := by
  show F_X12_run_129b (F_X12_run_129 f) 0 c hr = _
  have z : ¬ (gt hr 12 0 60 ≠ 0) := by simpa using e
  unfold F_X12_run_129b
  rw [if_pos (Int.le_refl 0), if_neg z, if_pos w, u]
  rfl
theorem r_go {c : Int} {hr hr' : zH} (f : Nat) (e : gt hr 12 0 60 = 0) (w : gt hr 12 0 52 = 0) (u : F_X12_goOn 0 hr = some (0, hr')) : F_X12_run_129 (f + 1) 0 c hr = F_X12_run_129 f 0 c hr' := by
  show F_X12_run_129b (F_X12_run_129 f) 0 c hr = _
  have z : ¬ (gt hr 12 0 60 ≠ 0) := by simpa using e
  have z' : ¬ (gt hr 12 0 52 ≠ 0) := by simpa using w
  unfold F_X12_run_129b
  rw [if_pos (Int.le_refl 0), if_neg z, if_neg z', u]
  rfl
theorem c_end {hc : zH} {i : Int} (f : Nat) (e : gt hc 8 0 3 ≤ 0 ∨ gt hc 8 0 12 = 4) : F_X8_perform_21 (f + 1) 0 i hc = F_X8_perform_141 0 hc := by
  show F_X8_perform_21b (F_X8_perform_21 f) 0 i hc = _
  unfold F_X8_perform_21b
  by_cases z : 1000000 ≤ i
  · rw [if_pos z]
  · rw [if_neg z, if_pos (Int.le_refl 0)]
    by_cases y : gt hc 8 0 3 ≤ 0
    · rw [if_pos y]
    · have q : gt hc 8 0 12 = 4 := by rcases e with e | e; exact absurd e y; exact e
      rw [if_neg y, if_pos q]
/-- the class's move -/
theorem c_it {h : zH} {k act i op t : Int} (f : Nat) (a1 : PIc h) (a4 : SC h) (e3 : gt h 8 0 3 = k) (k1 : 1 ≤ k) (k2 : k ≤ 10) (w : gt h 8 0 12 ≠ 4) (i0 : 0 ≤ i) (i1 : i < 1000000) (e10 : gt h 1 k 0 = act + 1) (ac : 0 ≤ act) (et : gt h 1 k 2 = t) (sO : F_X10_opAt (act + 1) t h = some (op, h)) :
    F_X8_perform_21 (f + 1) 0 i h = if gt h 8 0 12 = 0 then (if op = -1 ∨ zMk op then zb (F_X8_reachMark 0 k h) (fun _ h1 => F_X8_perform_21 f 0 (i + 1) h1) else zb (F_X8_step 0 h) (fun r15 h15 => if r15 = 0 then F_X8_perform_21 f 0 (i + 1) h15 else zb (F_X8_doLine 0 k op h15) (fun _ h17 => F_X8_perform_21 f 0 (i + 1) h17))) else zb (F_X8_leave 0 k h) (fun _ h18 => F_X8_perform_21 f 0 (i + 1) h18) := by
  show F_X8_perform_21b (F_X8_perform_21 f) 0 i h = _
  have ri : -1000000 ≤ i + 1 ∧ i + 1 ≤ 1000000 := by omega
  have n1 : ¬ 1000000 ≤ i := by omega
  have n2 : ¬ k ≤ 0 := by omega
  have kb : 0 ≤ k ∧ k < 11 := by omega
  have e39 : gt h 39 0 k = k := (a4.1 k kb.1 kb.2).1
  unfold F_X8_perform_21b F_X8_perform_111
  rw [if_neg n1, if_pos (Int.le_refl 0), e3, if_neg n2, if_neg w, pc_8_2 a1, if_pos (Int.le_refl 0), if_pos kb, e39, if_pos kb.1, e10, if_pos (show 0 ≤ act + 1 by omega), et, sO]
  simp only [zb]
  rw [wI_s ri]
  by_cases w0 : gt h 8 0 12 = 0
  · rw [if_pos w0, if_pos w0, if_pos (Int.le_refl 0)]
    by_cases o1 : op = -1
    · rw [if_pos o1, if_pos (Or.inl o1)]
    · rw [if_neg o1]
      by_cases o2 : op = 14
      · have q : op = -1 ∨ zMk op := Or.inr (Or.inl o2)
        rw [if_pos o2, if_pos q]
      · rw [if_neg o2]
        by_cases o3 : op = 15
        · have q : op = -1 ∨ zMk op := Or.inr (Or.inr (Or.inl o3))
          rw [if_pos o3, if_pos q]
        · rw [if_neg o3]
          by_cases o4 : op = 16
          · have q : op = -1 ∨ zMk op := Or.inr (Or.inr (Or.inr o4))
            have o4' : ¬ (op ≠ 16) := by simpa using o4
            rw [if_neg o4', if_pos q]
          · have q : ¬ (op = -1 ∨ zMk op) := fun v => by
              rcases v with v | v | v | v
              · exact o1 v
              · exact o2 v
              · exact o3 v
              · exact o4 v
            rw [if_pos o4, if_neg q]
  · rw [if_neg w0, if_neg w0]
