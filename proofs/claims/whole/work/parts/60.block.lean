/-! BLOCKS that begin; the LINES one by one -/
theorem jbad_len {hc hr : zH} {a : Int} {n t : Nat} {cx : zK} (s : zS hc hr a n) (tn : t < n) (e : zjs hc a t = cx) (c : gt hc 43 (a + 1) t = 11 ∨ gt hc 43 (a + 1) t = 12 ∨ gt hc 43 (a + 1) t = 13) : zjs hc a (t + 1) = ((t : Int), (t : Int)) :: cx ∧ cx.length < 8 := by
  have h := js_s s.2.2.2.1 tn
  have l := jbad_lt h.2 c
  have e' : js (gt hc 43 (a + 1)) (gt hc 44 (a + 1)) (gt hc 45 (a + 1)) t = cx := e
  refine ⟨?_, by rw [e'] at l; exact l⟩
  show js _ _ _ (t + 1) = _
  rw [h.1, e', jnx_11 c]
theorem zj_o {hc hr : zH} {a : Int} {n t : Nat} {cx : zK} (s : zS hc hr a n) (tn : t < n) (e : zjs hc a t = cx) (c : ¬ (gt hc 43 (a + 1) t = 11 ∨ gt hc 43 (a + 1) t = 12 ∨ gt hc 43 (a + 1) t = 13)) (d : ¬ zMk (gt hc 43 (a + 1) t)) : zjs hc a (t + 1) = cx := by
  have h := js_s s.2.2.2.1 tn
  have e' : js (gt hc 43 (a + 1)) (gt hc 44 (a + 1)) (gt hc 45 (a + 1)) t = cx := e
  show js _ _ _ (t + 1) = _
  rw [h.1, e', jnx_o c d]
theorem zj_b {hc hr : zH} {a : Int} {n t : Nat} (s : zS hc hr a n) (tn : t < n) : 0 ≤ gt hc 43 (a + 1) t ∧ gt hc 43 (a + 1) t < 17 ∧ jft (gt hc 44 (a + 1) t) (zA100.getD (gt hc 43 (a + 1) t).toNat 0) ∧ jft (gt hc 45 (a + 1) t) (zA101.getD (gt hc 43 (a + 1) t).toNat 0) := by
  have b := (js_s s.2.2.2.1 tn).2
  unfold jbad at b
  by_cases w : jwr (gt hc 43 (a + 1) t) (gt hc 44 (a + 1) t) (gt hc 45 (a + 1) t)
  · rw [if_pos w] at b; cases b
  · exact Classical.byContradiction fun y => w y
/-- LOOP and TRY -/
theorem RB.pu {B : Int} {n : Nat} {S c op tu wt : Int} {sid : Int → Int} {b : Nat} {k a : Int} {cx : zK} {hc hr hc' hr' : zH} {t m : Nat} (X : RB B n S c sid b k a cx hc hr) (I : LI k a t m cx hc hr) (E : SX n b hc hr) (e : zjs hc (gt hc 1 k 1) (t + 1) = ((t : Int), (t : Int)) :: cx) (eo : gt hc 43 (gt hc 1 k 1 + 1) t = op) (o : (op = 11 ∧ tu = wt ∧ 0 ≤ tu ∧ tu ≤ 20) ∨ (op = 13 ∧ wt = 0))
    (c2 : zFx [0] [(8, 5)] hc hc') (c3 : FrN hc hc') (c4 : gt hc' 8 0 5 = (b : Int) + 1) (c5 : gt hc' 0 ((b : Int) + 1) 0 = op ∧ gt hc' 0 ((b : Int) + 1) 1 = t ∧ gt hc' 0 ((b : Int) + 1) 2 = tu ∧ gt hc' 0 ((b : Int) + 1) 3 = 0) (c6 : ∀ i j, i ≠ (b : Int) + 1 → gt hc' 0 i j = gt hc 0 i j)
    (r2 : zFx [68, 69, 70, 71, 72, 73] [(12, 25)] hr hr') (r4 : gt hr' 12 0 25 = b + k + 1) (r5 : gt hr' 68 0 (b + k) = op ∧ gt hr' 69 0 (b + k) = t ∧ gt hr' 70 0 (b + k) = wt ∧ gt hr' 71 0 (b + k) = 0) (r6 : ∀ j, j ≠ (b : Int) + k → gt hr' 68 0 j = gt hr 68 0 j ∧ gt hr' 69 0 j = gt hr 69 0 j ∧ gt hr' 70 0 j = gt hr 70 0 j ∧ gt hr' 71 0 j = gt hr 71 0 j ∧ gt hr' 72 0 j = gt hr 72 0 j ∧ gt hr' 73 0 j = gt hr 73 0 j) :
    RB B n S c sid (b + 1) k a (((t : Int), (t : Int)) :: cx) hc' hr' := by
  obtain ⟨z1, z2, z3, z4, ⟨⟨p1, p2, p3, p4, p5, p6, p7, p8, p9, p10⟩, ⟨q1, q2, q3, q4, q5, q6, q7, q8, q9, q10, q11, q12, q13⟩⟩, z6⟩ := X
  obtain ⟨i1, i2, i3, i4, i5, i6, i7, i8⟩ := I
  have KO : Stk hc' hr' sid b k S a cx := z3.cg (x := b + k) (by funext i j; exact c2 43 j (by simp) (by simp) i) (by funext i j; exact c2 44 j (by simp) (by simp) i) (by funext i j; exact c2 45 j (by simp) (by simp) i) (c2 11 2 (by simp) (by decide) 0) (by funext j; exact r2 62 j (by simp) (by simp) 0) (by rw [c2 2 6 (by simp) (by decide) 0]; exact Int.le_refl _) (Or.inr (Int.le_refl _)) (fun i i1 i2 j => c6 i j (by omega)) (fun i i1 i2 => ⟨c2 1 0 (by simp) (by decide) i, c2 1 1 (by simp) (by decide) i, fun _ => c2 1 2 (by simp) (by decide) i⟩) (fun i i1 i2 => ⟨c2 9 0 (by simp) (by decide) i, c2 9 1 (by simp) (by decide) i, rfl⟩) (fun j j0 j1 => by
    obtain ⟨w1, w2, w3, w4, w5, w6⟩ := r6 j (by omega)
    exact ⟨w1, w2, w3, w4, fun _ => ⟨w5, w6⟩⟩)
  have e11 : gt hc' 1 k 1 = gt hc 1 k 1 := c2 1 1 (by simp) (by decide) k
  have e43 : gt hc' 43 = gt hc 43 := by funext i j; exact c2 43 j (by simp) (by simp) i
  have EBk : EB hc' hr' ((b : Int) + 1) (b + k) k op t t cx := by
    refine ⟨p9, c5.1, r5.1, c5.2.1, r5.2.1, by rw [e11, e43]; exact eo, m, by rw [e11]; exact i4.fr c2 rfl r2 rfl, Nat.le_refl t, i5, ?_, ?_, ?_⟩
    · rw [e11, zjs.fr c2 rfl]; exact i6
    · rw [e11, zjs.fr c2 rfl]; exact e
    · rw [e11, zjs.fr c2 rfl]; exact e
  refine ⟨z1.fr c2 rfl c3 r2 rfl, z2.fr c2 rfl r2 rfl, Or.inr ⟨t, t, cx, rfl, ?_⟩, z4, ?_, z6.fr c2 rfl r2 rfl⟩
  · rcases o with ⟨o1, o2, o3, o4⟩ | ⟨o1, o2⟩
    · rw [o1] at EBk
      refine Or.inr (Or.inl ⟨EBk, rfl, ⟨?_, ?_, ?_⟩, KO⟩)
      · rw [c5.2.2.1, r5.2.2.1]; exact o2
      · rw [c5.2.2.1]; exact o3
      · rw [c5.2.2.1]; exact o4
    · have eo' : gt hc 43 (gt hc 1 k 1 + 1) t = 13 := by rw [eo, o1]
      rw [o1] at EBk
      refine Or.inr (Or.inr ⟨EBk, ⟨?_, ?_, ?_, ?_, ?_⟩, KO⟩)
      · rw [c5.2.2.2, r5.2.2.1, o2]
      · rw [c5.2.2.2]; exact Or.inl rfl
      · rw [c5.2.2.2, e11, e43, eo']; decide
      · rw [c5.2.2.2]; intro z; cases z
      · rw [c5.2.2.2]; intro z; cases z
  · refine ⟨⟨?_, ?_, ?_, ?_, ?_, ?_, ?_, p8, p9, ?_⟩, ?_⟩
    · rw [c2 8 3 (by simp) (by decide) 0]; exact p1
    · rw [c4]; omega
    · rw [c2 8 7 (by simp) (by decide) 0]; exact p3
    · rw [r4]; omega
    · rw [r2 12 33 (by simp) (by decide) 0]; exact p5
    · rw [r2 12 67 (by simp) (by decide) 0]; exact p6
    · rw [r2 12 60 (by simp) (by decide) 0]; exact p7
    · rw [r2 12 59 (by simp) (by decide) 0]; exact p10
    · rw [c2 8 14 (by simp) (by decide) 0, c2 8 15 (by simp) (by decide) 0, c2 8 16 (by simp) (by decide) 0, r2 12 55 (by simp) (by decide) 0, r2 12 43 (by simp) (by decide) 0, r2 12 58 (by simp) (by decide) 0, r2 12 44 (by simp) (by decide) 0]
      have := E.2.2.1
      exact ⟨q1, q2, q3, q4, q5, q6, q7, q8, by omega, q10, q11, q12, q13⟩
/-- a BLOCK begun, and the next LINE comes -/
theorem l_in {B : Int} {n : Nat} {S c : Int} {sid : Int → Int} {b : Nat} {k a : Int} {cx : zK} {hc hr : zH} {t m : Nat} (X : RB B n S c sid b k a cx hc hr) (h2 : gt hr 72 0 a = (t : Int) + 1) (s : zS hc hr (gt hc 1 k 1) m) (tm : t < m) (w : gt hc 8 0 12 = 0) (w' : gt hr 12 0 52 = 0) (e : zjs hc (gt hc 1 k 1) (t + 1) = cx) :
    RES B c (2 * b + 1 + 4 * (160 - gt hc 8 0 14)) (pt hc 1 k 2 ((t : Int) + 1)) hr := by
  obtain ⟨hc', hh⟩ : ∃ hc', hc' = pt hc 1 k 2 ((t : Int) + 1) := ⟨_, rfl⟩
  rw [← hh]
  have xc : zFx [] [(1, 2)] hc hc' := by rw [hh]; exact (zFx.rf hc).p2 rfl
  have nc : FrN hc hc' := by rw [hh]; exact frpN (frrN hc)
  have v : gt hc' 1 k 2 = (t : Int) + 1 := by rw [hh]; simp [gt_pt]
  have w12 : ∀ i, i ≠ k → gt hc' 1 i 2 = gt hc 1 i 2 := fun i z => by rw [hh]; simp [gt_pt, z]
  have v12 : gt hc' 8 0 12 = 0 := (xc 8 12 (by simp) (by decide) 0).trans w
  have v11 : gt hc' 1 k 1 = gt hc 1 k 1 := xc 1 1 (by simp) (by decide) k
  refine Or.inl ⟨n, S, sid, b, k, a, cx, ⟨X.fr xc rfl nc w12 (zFx.rf (l := []) (m := []) hr) rfl (fun _ _ => ⟨rfl, rfl⟩), ⟨by rw [v12, w'], by rw [v12]; decide, by rw [v12]; decide, fun z => by omega⟩, fun _ => ⟨t + 1, m, v, h2, ?_, tm, ?_⟩⟩, ?_⟩
  · rw [v11]; exact s.fr xc rfl (zFx.rf (l := []) (m := []) hr) rfl
  · rw [v11, zjs.fr xc rfl]; exact e
  · rw [if_pos v12, xc 8 14 (by simp) (by decide) 0]; exact Int.le_refl _
theorem l_blk {B : Int} {n : Nat} {S c op a0 : Int} {sid : Int → Int} {b : Nat} {k a : Int} {cx : zK} {hc hr : zH} {t m : Nat} (X : RB B n S c sid b k a cx hc hr) (I : LI k a t m cx hc hr) (E : SX n b hc hr) (eo : gt hc 43 (gt hc 1 k 1 + 1) t = op) (o : (op = 11 ∧ 1 ≤ a0 ∧ a0 ≤ 20) ∨ op = 13) :
    ∃ hc' hr', zb (F_X8_beginBlock 0 k op a0 hc) (fun _ h => F_X8_doLine_223 0 k op h) = some (0, hc') ∧ zb (F_X12_begin 0 op t (if op = 11 then a0 - 1 else 0) hr) (fun _ h => some (0, h)) = some (0, hr') ∧ RES B c (2 * b + 3 + 4 * (160 - gt hc 8 0 14)) hc' hr' := by
  obtain ⟨x1, x2, x3, x4, x5, x6, x7, x8, x9, x10, x11, x12, x13, x14, x15, x16, x17, x18⟩ := X.at
  have C := X.1
  have a1 := C.1
  have a2 := C.2.1
  have a4 := C.2.2.2.1
  have I' := I
  obtain ⟨i1, i2, i3, i4, i5, i6, i7, i8⟩ := I'
  have m40 := (i4.e C.2.2.2.2.2.2.2.2.2.1).2.1
  obtain ⟨e, cl⟩ := jbad_len i4 i5 i6 (by rw [eo]; omega)
  have bd := (X.2.2.1.bd.2.2.2.2.2.2.2 x7).2.1
  have rt : -1000000 ≤ (t : Int) + 1 ∧ (t : Int) + 1 ≤ 1000000 := by omega
  have ra : -1000000 ≤ a0 - 1 ∧ a0 - 1 ≤ 1000000 ∨ op = 13 := by omega
  obtain ⟨tu, htu⟩ : ∃ tu, tu = if op = 11 then a0 - 1 else 0 := ⟨_, rfl⟩
  obtain ⟨hc1, c1, c2, c3, c4, c5, c6⟩ := c_push (op := op) (ln := t) (tu := tu) a1 a4 x16 (by omega)
  obtain ⟨hr1, r1, r2, r3, r4, r5, r6⟩ := r_begin (op := op) (ln := t) (wt := tu) a2 x13 (by omega) (by omega)
  have X1 : RB B n S c sid (b + 1) k a (((t : Int), (t : Int)) :: cx) hc1 hr1 := X.pu I E e eo (by
    rcases o with ⟨o1, o2, o3⟩ | o1
    · rw [if_pos o1] at htu; exact Or.inl ⟨o1, rfl, by omega, by omega⟩
    · rw [if_neg (by omega)] at htu; exact Or.inr ⟨o1, htu⟩) c2 c3 c4 c5 c6 r2 r4 r5 r6
  have g11 : gt hc1 1 k 1 = gt hc 1 k 1 := c2 1 1 (by simp) (by decide) k
  have g12 : gt hc1 8 0 12 = 0 := (c2 8 12 (by simp) (by decide) 0).trans i7
  have R := l_in X1 (by rw [(r6 a (by omega)).2.2.2.2.1]; exact i2) (by rw [g11]; exact i4.fr c2 rfl r2 rfl) i5 g12 ((r2 12 52 (by simp) (by decide) 0).trans i8) (by rw [g11, zjs.fr c2 rfl]; exact e)
  refine ⟨pt hc1 1 k 2 ((t : Int) + 1), hr1, ?_, by rw [← htu, r1]; rfl, R.up (by rw [c2 8 14 (by simp) (by decide) 0]; omega)⟩
  have t2 : gt hc1 1 k 2 = t := (c2 1 2 (by simp) (by decide) k).trans i1
  have b68 : F_X8_beginBlock_68 k hc1 = some (0, pt hc1 1 k 2 ((t : Int) + 1)) := by
    unfold F_X8_beginBlock_68
    rw [if_pos (show 0 ≤ k by omega), t2, wI_s rt]
  have b28 : F_X8_beginBlock_28 0 k op a0 hc = some (0, pt hc1 1 k 2 ((t : Int) + 1)) := by
    unfold F_X8_beginBlock_28
    rw [if_pos (show 0 ≤ k by omega), i1]
    rcases o with ⟨o1, o2, o3⟩ | o1
    · have ra : -1000000 ≤ a0 - 1 ∧ a0 - 1 ≤ 1000000 := by omega
      rw [if_pos o1] at htu
      rw [if_neg (by simpa using o1), if_pos (Int.le_refl 0), wI_s ra, ← htu, c1]
      simp only [zb]
      rw [if_pos (by omega)]; exact b68
    · rw [if_neg (by omega)] at htu
      have c1' := c1
      rw [htu] at c1'
      rw [if_pos (by omega), if_pos (Int.le_refl 0), c1']
      simp only [zb]
      rw [if_pos (by omega)]; exact b68
  have bb : F_X8_beginBlock 0 k op a0 hc = some (0, pt hc1 1 k 2 ((t : Int) + 1)) := by
    unfold F_X8_beginBlock F_X8_beginBlock_0
    rcases o with ⟨o1, o2, o3⟩ | o1
    · rw [if_neg (by simpa using o1), if_pos (by omega)]; exact b28
    · rw [if_pos (by omega)]; exact b28
  rw [bb]
  show F_X8_doLine_223 0 k op (pt hc1 1 k 2 ((t : Int) + 1)) = _
  unfold F_X8_doLine_223
  have z12 : gt (pt hc1 1 k 2 ((t : Int) + 1)) 8 0 12 = 0 := g12
  rw [if_pos (Int.le_refl 0), if_neg (by simpa using z12), if_pos (by omega)]
theorem l_loop0 {B : Int} {n : Nat} {S c : Int} {sid : Int → Int} {b : Nat} {k a : Int} {cx : zK} {hc hr : zH} {t m : Nat} (X : RB B n S c sid b k a cx hc hr) (I : LI k a t m cx hc hr) (eo : gt hc 43 (gt hc 1 k 1 + 1) t = 11) :
    ∃ hc' hr', zb (F_X8_beginBlock 0 k 11 0 hc) (fun _ h => F_X8_doLine_223 0 k 11 h) = some (0, hc') ∧ zb (F_X12_endOf 0 (gt hc 1 k 1) t hr) (fun r51 h51 => zb (F_X12_goTo 0 (wI (r51 + 1)) h51) (fun _ h52 => some (0, h52))) = some (0, hr') ∧ RES B c (2 * b + 3 + 4 * (160 - gt hc 8 0 14)) hc' hr' := by
  obtain ⟨x1, x2, x3, x4, x5, x6, x7, x8, x9, x10, x11, x12, x13, x14, x15, x16, x17, x18⟩ := X.at
  have C := X.1
  have a1 := C.1
  have a2 := C.2.1
  have a4 := C.2.2.2.1
  have R := C.2.2.2.2.2.2.2.2.2.1
  obtain ⟨i1, i2, i3, i4, i5, i6, i7, i8⟩ := I
  have m40 := (i4.e R).2.1
  obtain ⟨e, cl⟩ := jbad_len i4 i5 i6 (by rw [eo]; omega)
  obtain ⟨w, mm, w1, w2, w3, w4, w5, w6, w7, w8, w9, w10⟩ := wo2 R a4 a2 i4 i5 e
  obtain ⟨o16, nx⟩ := w7 (by rw [eo]; decide)
  have rw' : -1000000 ≤ (w : Int) + 1 ∧ (w : Int) + 1 ≤ 1000000 := by omega
  obtain ⟨hr1, h1⟩ : ∃ hr1, hr1 = pt hr 72 0 a ((w : Int) + 1) := ⟨_, rfl⟩
  have xr : zFx [72] [] hr hr1 := by rw [h1]; exact (zFx.rf hr).p1 rfl
  have v72 : gt hr1 72 0 a = (w : Int) + 1 := by rw [h1]; simp [gt_pt]
  have X1 : RB B n S c sid b k a cx hc hr1 := X.fr (lc := []) (mc := []) (zFx.rf hc) rfl (frrN hc) (fun _ _ => rfl) xr rfl (fun j z => ⟨by rw [h1]; simp [gt_pt, z], xr 73 j (by simp) (by simp) 0⟩)
  have RR := l_in X1 v72 (i4.fr (lc := []) (mc := []) (zFx.rf hc) rfl xr rfl) w2 i7 ((xr 12 52 (by simp) (by simp) 0).trans i8) (w6 o16)
  refine ⟨pt hc 1 k 2 ((w : Int) + 1), hr1, ?_, ?_, RR.up (by omega)⟩
  · have bb : F_X8_beginBlock 0 k 11 0 hc = some (0, pt hc 1 k 2 ((w : Int) + 1)) := by
      unfold F_X8_beginBlock F_X8_beginBlock_0
      rw [if_neg (by decide), if_neg (by decide), if_pos (show 0 ≤ k by omega), x6, if_pos (by have := i4.1; omega), i1, nx]
      simp only [zb]
      rw [wI_s rw']
    rw [bb]
    show F_X8_doLine_223 0 k 11 (pt hc 1 k 2 ((w : Int) + 1)) = _
    unfold F_X8_doLine_223
    have z12 : gt (pt hc 1 k 2 ((w : Int) + 1)) 8 0 12 = 0 := i7
    rw [if_pos (Int.le_refl 0), if_neg (by simpa using z12), if_pos (by decide)]
  · rw [w10 o16]
    simp only [zb]
    rw [wI_s rw', s_goTo a2 x3 x1 x2, h1]
theorem l_scope {B : Int} {n : Nat} {S c a0 : Int} {sid : Int → Int} {b : Nat} {k a : Int} {cx : zK} {hc hr : zH} {t m : Nat} (X : RB B n S c sid b k a cx hc hr) (I : LI k a t m cx hc hr) (E : SX n b hc hr) (eo : gt hc 43 (gt hc 1 k 1 + 1) t = 12) :
    ∃ hc' hr', zb (F_X8_beginBlock 0 k 12 a0 hc) (fun _ h => F_X8_doLine_223 0 k 12 h) = some (0, hc') ∧ zb (F_X12_beginScope 0 t hr) (fun _ h => some (0, h)) = some (0, hr') ∧ RES B c (2 * b + 3 + 4 * (160 - gt hc 8 0 14)) hc' hr' := by
  obtain ⟨x1, x2, x3, x4, x5, x6, x7, x8, x9, x10, x11, x12, x13, x14, x15, x16, x17, x18⟩ := X.at
  have C := X.1
  have a1 := C.1
  have a2 := C.2.1
  have a4 := C.2.2.2.1
  have I' := I
  obtain ⟨i1, i2, i3, i4, i5, i6, i7, i8⟩ := I'
  have m40 := (i4.e C.2.2.2.2.2.2.2.2.2.1).2.1
  obtain ⟨e, cl⟩ := jbad_len i4 i5 i6 (by rw [eo]; omega)
  have bdd := X.2.2.1.bd
  have bd := (bdd.2.2.2.2.2.2.2 x7).2.1
  have bS := bdd.2.2.1
  have rt : -1000000 ≤ (t : Int) + 1 ∧ (t : Int) + 1 ≤ 1000000 := by omega
  obtain ⟨hc1, c1, c2, c3, c4, c5, c6⟩ := c_push (op := 12) (ln := t) (tu := 0) a1 a4 x16 (by omega)
  obtain ⟨hc2, o1, o2, o3, o4, o5, o6⟩ := c_open (ac := gt hc 1 k 1) (ln := t) (S := S) (a1.fr c2 rfl) (a4.fr c2 rfl c3.1) ((c2 8 7 (by simp) (by decide) 0).trans x14) (by omega) (by omega)
  obtain ⟨so, hso⟩ : ∃ so, so = gt hr 12 0 44 := ⟨_, rfl⟩
  obtain ⟨hr1, r1, r2, r3, r4, r5, r6⟩ := r_begin (op := 12) (ln := t) (wt := so) a2 x13 (by omega) (by omega)
  obtain ⟨z1, z2, z3, z4, ⟨⟨p1, p2, p3, p4, p5, p6, p7, p8, p9, p10⟩, ⟨q1, q2, q3, q4, q5, q6, q7, q8, q9, q10, q11, q12, q13, q14⟩⟩, z6⟩ := X
  have rs : -1000000 ≤ so + 1 ∧ so + 1 ≤ 1000000 := by have := E.2.2.2; omega
  obtain ⟨hr2, h2⟩ : ∃ hr2, hr2 = pt hr1 12 0 44 (so + 1) := ⟨_, rfl⟩
  have y2 : zFx [] [(12, 44)] hr1 hr2 := by rw [h2]; exact (zFx.rf hr1).p2 rfl
  have xr : zFx [68, 69, 70, 71, 72, 73] [(12, 25), (12, 44)] hr hr2 := (r2.wk rfl rfl).tr (y2.wk rfl rfl)
  have xc : zFx [0] [(8, 5), (8, 7), (9, 0), (9, 1), (9, 2)] hc hc2 := (c2.wk rfl rfl).tr (o2.wk rfl rfl)
  have nc : FrN hc hc2 := c3.tr o3
  have su : ∀ i, i ≤ S → sUp S so sid i = sid i := fun i z => if_neg (by omega)
  have suS : sUp S so sid (S + 1) = so := if_pos rfl
  have y68 : ∀ (d : Nat) (j : Int), d ≠ 12 → gt hr2 d 0 j = gt hr1 d 0 j := fun d j z => y2 d j (by simp) (by simp [z]) 0
  have K' : LN n (S + 1) (-1) (sUp S so sid) hc2 hr2 := (show LN n S (-1) sid hc hr from z1.2.2.2.2.2.2.2.2.2.2.2.1).up (fun l j => xc 4 j (by simp) (by simp) l) (fun u z => by rw [o6 u 2 z, c2 9 2 (by simp) (by decide) u]) o5.2.2 (fun d x y => by
    funext j
    rcases (show d = 75 ∨ d = 76 ∨ d = 77 ∨ d = 78 ∨ d = 79 ∨ d = 80 by omega) with rfl | rfl | rfl | rfl | rfl | rfl
    · exact xr 75 j (by simp) (by simp) 0
    · exact xr 76 j (by simp) (by simp) 0
    · exact xr 77 j (by simp) (by simp) 0
    · exact xr 78 j (by simp) (by simp) 0
    · exact xr 79 j (by simp) (by simp) 0
    · exact xr 80 j (by simp) (by simp) 0) (xr 12 0 (by simp) (by decide) 0) (xr 12 43 (by simp) (by decide) 0) (fun i _ z => su i z)
  have C' : CR B n (S + 1) c (sUp S so sid) hc2 hr2 := z1.ln K' xc rfl nc xr rfl
  have e0 : ∀ i j, gt hc2 0 i j = gt hc1 0 i j := fun i j => o2 0 j (by simp) (by simp) i
  have e11 : gt hc2 1 k 1 = gt hc 1 k 1 := xc 1 1 (by simp) (by decide) k
  have KO : Stk hc2 hr2 (sUp S so sid) b k S a cx := z3.cg (x := b + k) (by funext i j; exact xc 43 j (by simp) (by simp) i) (by funext i j; exact xc 44 j (by simp) (by simp) i) (by funext i j; exact xc 45 j (by simp) (by simp) i) (xc 11 2 (by simp) (by decide) 0) (by funext j; exact xr 62 j (by simp) (by simp) 0) (by rw [xc 2 6 (by simp) (by decide) 0]; exact Int.le_refl _) (Or.inr (Int.le_refl _)) (fun i i1 i2 j => by rw [e0, c6 i j (by omega)]) (fun i i1 i2 => ⟨xc 1 0 (by simp) (by decide) i, xc 1 1 (by simp) (by decide) i, fun _ => xc 1 2 (by simp) (by decide) i⟩) (fun i i1 i2 => ⟨by rw [o6 i 0 (by omega), c2 9 0 (by simp) (by decide) i], by rw [o6 i 1 (by omega), c2 9 1 (by simp) (by decide) i], su i i2⟩) (fun j j0 j1 => by
    obtain ⟨w1, w2, w3, w4, w5, w6⟩ := r6 j (by omega)
    rw [y68 68 j (by decide), y68 69 j (by decide), y68 70 j (by decide), y68 71 j (by decide), y68 72 j (by decide), y68 73 j (by decide)]
    exact ⟨w1, w2, w3, w4, fun _ => ⟨w5, w6⟩⟩)
  have e43 : gt hc2 43 = gt hc 43 := by funext i j; exact xc 43 j (by simp) (by simp) i
  have X2 : RB B n (S + 1) c (sUp S so sid) (b + 1) k a (((t : Int), (t : Int)) :: cx) hc2 hr2 := by
    refine ⟨C', z2.fr xc rfl xr rfl, Or.inr ⟨t, t, cx, rfl, Or.inl ⟨⟨p9, ?_, ?_, ?_, ?_, ?_, m, ?_, Nat.le_refl t, i5, ?_, ?_, ?_⟩, rfl, ⟨by omega, ?_, ?_, o5.2.1⟩, ?_⟩⟩, z4.up (fun z => by rw [hso]; exact q13 z), ?_, z6.fr xc rfl xr rfl⟩
    · rw [e0]; exact c5.1
    · rw [y68 68 _ (by decide)]; exact r5.1
    · rw [e0]; exact c5.2.1
    · rw [y68 69 _ (by decide)]; exact r5.2.1
    · rw [e11, e43]; exact eo
    · rw [e11]; exact i4.fr xc rfl xr rfl
    · rw [e11, zjs.fr xc rfl]; exact i6
    · rw [e11, zjs.fr xc rfl]; exact e
    · rw [e11, zjs.fr xc rfl]; exact e
    · rw [y68 70 _ (by decide), suS]; exact r5.2.2.1
    · rw [e11]; exact o5.1
    · rw [show S + 1 - 1 = S by omega]; exact KO
    · refine ⟨⟨?_, ?_, o4, ?_, ?_, ?_, ?_, p8, p9, ?_⟩, ?_⟩
      · rw [xc 8 3 (by simp) (by decide) 0]; exact p1
      · rw [o2 8 5 (by simp) (by decide) 0, c4]; omega
      · rw [y2 12 25 (by simp) (by decide) 0, r4]; omega
      · rw [xr 12 33 (by simp) (by decide) 0]; exact p5
      · rw [xr 12 67 (by simp) (by decide) 0]; exact p6
      · rw [xr 12 60 (by simp) (by decide) 0]; exact p7
      · rw [xr 12 59 (by simp) (by decide) 0]; exact p10
      · have v44 : gt hr2 12 0 44 = so + 1 := by rw [h2]; rfl
        rw [xc 8 14 (by simp) (by decide) 0, xc 8 15 (by simp) (by decide) 0, xc 8 16 (by simp) (by decide) 0, xr 12 55 (by simp) (by decide) 0, xr 12 43 (by simp) (by decide) 0, xr 12 58 (by simp) (by decide) 0, v44, suS]
        have f1 := E.2.2.1
        have f2 := E.2.2.2
        refine ⟨q1, q2, q3, q4, q5, q6, q7, q8, by omega, by omega, q11, by omega, fun _ => by omega, fun i i1 i2 => ?_⟩
        by_cases z : i = S + 1
        · rw [z, suS]; omega
        · rw [su i (by omega)]; exact q14 i i1 (by omega)
  have g12 : gt hc2 8 0 12 = 0 := (xc 8 12 (by simp) (by decide) 0).trans i7
  have R := l_in X2 (by rw [y68 72 _ (by decide), (r6 a (by omega)).2.2.2.2.1]; exact i2) (by rw [e11]; exact i4.fr xc rfl xr rfl) i5 g12 ((xr 12 52 (by simp) (by decide) 0).trans i8) (by rw [e11, zjs.fr xc rfl]; exact e)
  refine ⟨pt hc2 1 k 2 ((t : Int) + 1), hr2, ?_, ?_, R.up (by rw [xc 8 14 (by simp) (by decide) 0]; omega)⟩
  · have t2 : gt hc2 1 k 2 = t := (xc 1 2 (by simp) (by decide) k).trans i1
    have bb : F_X8_beginBlock 0 k 12 a0 hc = some (0, pt hc2 1 k 2 ((t : Int) + 1)) := by
      unfold F_X8_beginBlock F_X8_beginBlock_0 F_X8_beginBlock_28 F_X8_beginBlock_68
      rw [if_pos (by decide), if_pos (show 0 ≤ k by omega), if_pos (by decide), if_pos (Int.le_refl 0), i1, c1]
      simp only [zb]
      rw [if_neg (by decide), c2 1 1 (by simp) (by decide) k, c2 1 2 (by simp) (by decide) k, i1, o1]
      simp only []
      rw [if_pos (show 0 ≤ k by omega), t2, wI_s rt]
    rw [bb]
    show F_X8_doLine_223 0 k 12 (pt hc2 1 k 2 ((t : Int) + 1)) = _
    unfold F_X8_doLine_223
    have z12 : gt (pt hc2 1 k 2 ((t : Int) + 1)) 8 0 12 = 0 := g12
    rw [if_pos (Int.le_refl 0), if_neg (by simpa using z12), if_pos (by decide)]
  · unfold F_X12_beginScope F_X12_beginScope_0
    rw [if_pos (Int.le_refl 0), ← hso, r1]
    simp only [zb]
    rw [r2 12 44 (by simp) (by decide) 0, ← hso, wI_s rs, h2]
