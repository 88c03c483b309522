/-! LINES of SLOTS: USE, BACK, LEND, PASS -/
/-- a STEP more than before: room for one more of each -/
def SX (n : Nat) (b : Nat) (hc hr : zH) : Prop := (n : Int) < gt hc 8 0 14 ∧ gt hr 12 0 43 < gt hc 8 0 14 ∧ gt hc 8 0 16 + b < gt hc 8 0 14 + 1 ∧ gt hr 12 0 44 < gt hc 8 0 14 + 1
theorem SX.fr {n b : Nat} {hc hr hc' hr' : zH} {lc lr : List Nat} {mc mr : List (Nat × Int)} (K : SX n b hc hr) (xc : zFx lc mc hc hc') (dc : zdj [] [(8, 14), (8, 16)] lc mc = true) (xr : zFx lr mr hr hr') (dr : zdj [] [(12, 43), (12, 44)] lr mr = true) : SX n b hc' hr' := by
  unfold SX
  rw [zdf2 dc xc (c := 8) (j := 14) (by decide) 0, zdf2 dc xc (c := 8) (j := 16) (by decide) 0, zdf2 dr xr (c := 12) (j := 43) (by decide) 0, zdf2 dr xr (c := 12) (j := 44) (by decide) 0]
  exact K
theorem CR.pl {B : Int} {n : Nat} {S c : Int} {sid : Int → Int} {hc hr hc' hr' : zH} (X : CR B n S c sid hc hr) (xc : zFx [36, 37, 38] [(7, 3)] hc hc') (en : FrN hc hc') (xr : zFx [54, 55, 56, 57] [(12, 6)] hr hr') (P : RPl hc' hr') : CR B n S c sid hc' hr' := by
  obtain ⟨a1, a2, a3, a4, a5, a6, a7, a8, a9, a10, ⟨b1, b2, b3, b4, b5, b6, b7, b8, b9, b10⟩, K, U, H, L, T⟩ := X
  have g : ∀ q : Nat, ([54, 55, 56, 57, 12] : List Nat).contains q = false → gt hr' q 0 = gt hr q 0 := fun q z => by
    funext j
    refine xr q j (fun w => ?_) (fun w => ?_) 0
    · simp at w z; omega
    · simp at w z; omega
  have gc : ∀ q : Nat, ([36, 37, 38, 7] : List Nat).contains q = false → gt hc' q = gt hc q := fun q z => by
    funext i j
    refine xc q j (fun w => ?_) (fun w => ?_) i
    · simp at w z; omega
    · simp at w z; omega
  have e80 := g 80 rfl
  have e76 := g 76 rfl
  have zg : zLg hr' = zLg hr := by
    funext k
    unfold zLg
    rw [e80, e76]
  have r0 : gt hr' 12 0 0 = gt hr 12 0 0 := xr 12 0 (by simp) (by decide) 0
  have r62 : gt hr' 12 0 62 = gt hr 12 0 62 := xr 12 62 (by simp) (by decide) 0
  refine ⟨a1.fr xc rfl, a2.fr xr rfl, a3.fr xc rfl, a4.fr xc rfl en.1, a5.fr xc rfl xr rfl, a6.fr xc rfl xr rfl, P, ?_, a9.fr xc rfl xr rfl, a10.fr xc rfl xr rfl,
    ⟨by rw [xc 8 9 (by simp) (by decide) 0]; exact b1, by rw [xr 12 34 (by simp) (by decide) 0]; exact b2, by rw [xr 12 56 (by simp) (by decide) 0]; exact b3, b4, by rw [xc 8 11 (by simp) (by decide) 0]; exact b5, by rw [xr 12 61 (by simp) (by decide) 0]; exact b6, b7, b8, b9, b10⟩, K.fr xc rfl xr rfl, ?_, ?_, ?_, ?_⟩
  · rw [e80]; exact a8.fr xc rfl xr rfl
  · unfold PU zU
    rw [e80, e76, g 75 rfl, g 52 rfl, g 89 rfl, r0, r62, gc 6 rfl]
    exact U
  · unfold PH zU zLc
    rw [zg, e80, e76, g 75 rfl, g 52 rfl, r0, r62, gc 29 rfl, gc 3 rfl]
    exact H
  · unfold PL
    rw [g 89 rfl, g 90 rfl, g 91 rfl, g 92 rfl, g 52 rfl, r0, r62, gc 6 rfl, gc 29 rfl, gc 34 rfl, gc 35 rfl]
    exact L
  · unfold PTr zU
    rw [e80, e76, g 75 rfl, g 81 rfl, g 82 rfl, gc 6 rfl, gc 34 rfl, gc 35 rfl]
    exact T
theorem l_use {B : Int} {n : Nat} {S c l b0 base : Int} {sid : Int → Int} {b : Nat} {k a : Int} {cx : zK} {hc hr : zH} {t m : Nat} (X : RB B n S c sid b k a cx hc hr) (I : LI k a t m cx hc hr) (e : zjs hc (gt hc 1 k 1) (t + 1) = cx) (l0 : -1 ≤ l) (l1 : l < n) :
    ∃ hc' hr', zb (F_X8_use 0 k l hc) (fun _ h => F_X8_doLine_223 0 k 3 h) = some (0, hc') ∧ F_X12_doSlot 0 3 t l b0 base hr = some (0, hr') ∧ RES B c (2 * b + 3 + 4 * (160 - gt hc 8 0 14)) hc' hr' := by
  have C := X.1
  have a1 := C.1
  have a2 := C.2.1
  have n160 := C.2.2.2.2.2.2.2.2.2.2.1.2.2.2.1
  have hn := C.2.2.2.2.2.2.2.2.2.2.1.2.1
  have K : LN n S (-1) sid hc hr := C.2.2.2.2.2.2.2.2.2.2.2.1
  obtain ⟨e1, e2⟩ := c_mis (fl := 1) C l0 l1
  have fail : ∀ kd, 0 ≤ kd → kd < 12 → (F_X8_use 0 k l hc = zb (F_X8_fail 0 k kd (if l = -1 then -1 else gt hr 75 0 l) hc) (fun _ h => some (0, h))) → (F_X12_doSlot 0 3 t l b0 base hr = zb (F_X12_fail 0 kd t (if l = -1 then -1 else gt hr 75 0 l) hr) (fun _ h => some (0, h))) →
      ∃ hc' hr', zb (F_X8_use 0 k l hc) (fun _ h => F_X8_doLine_223 0 k 3 h) = some (0, hc') ∧ F_X12_doSlot 0 3 t l b0 base hr = some (0, hr') ∧ RES B c (2 * b + 3 + 4 * (160 - gt hc 8 0 14)) hc' hr' := fun kd k0 k1 q1 q2 => by
    obtain ⟨hc', hr', f1, f2, f3, f4⟩ := l_fail (op := 3) (p := if l = -1 then -1 else gt hr 75 0 l) X I.1 k0 k1
    refine ⟨hc', hr', ?_, ?_, f4⟩
    · rw [q1, f1]
      simp only [zb]
      exact f2
    · rw [q2, f3]
      rfl
  by_cases ov : l = -1 ∨ gt hr 80 0 l = 0
  · refine fail 3 (by decide) (by decide) ?_ ?_
    · have : (if l = -1 then (3 : Int) else if gt hr 80 0 l = 0 then 3 else if (1 : Int) = 0 then -1 else if gt hc 4 l 4 = -1 then -1 else 2) = 3 := by
        by_cases z : l = -1
        · rw [if_pos z]
        · rcases ov with y | y
          · exact absurd y z
          · rw [if_neg z, if_pos y]
      rw [this] at e1
      unfold F_X8_use F_X8_use_0
      rw [e1]
      simp only [zb]
      rw [if_neg (by decide), e2]
      simp only []
      rw [if_pos (by decide)]
    · unfold F_X12_doSlot F_X12_doSlot_0
      by_cases z : l = -1
      · rw [if_pos (by omega), r_over (k := k) (a := a) a2 l1 n160 l0]
      · rcases ov with y | y
        · exact absurd y z
        · rw [if_neg (by omega), if_pos (by decide), pr_40 a2, if_pos (by decide), if_pos ⟨by omega, by omega⟩, if_neg (by simpa using y), r_over (k := k) (a := a) a2 l1 n160 l0]
  · have lz : l ≠ -1 := fun z => ov (Or.inl z)
    have oz : gt hr 80 0 l ≠ 0 := fun z => ov (Or.inr z)
    have l00 : 0 ≤ l := by omega
    have hs := m_has n160 K a2 hn l00 l1
    rw [if_neg lz, if_neg oz, if_neg (by decide)] at e1
    rw [if_neg lz] at e2 fail
    have rs : F_X12_doSlot 0 3 t l b0 base hr = if gt hc 4 l 4 = -1 then zb (F_X12_meets 0 (gt hr 75 0 l) 0 hr) (fun r12 h12 => if r12 = 0 then (some (0, h12)) else (zb (F_X12_fail 0 5 t (gt hr 75 0 l) h12) (fun _ h => some (0, h)))) else zb (F_X12_fail 0 2 t (gt hr 75 0 l) hr) (fun _ h => some (0, h)) := by
      unfold F_X12_doSlot F_X12_doSlot_0
      rw [if_neg (by omega), if_pos (by decide), pr_40 a2, if_pos (by decide), if_pos ⟨by omega, by omega⟩, if_pos oz, pr_35 a2, if_pos (by decide), if_pos (by decide), if_pos (by decide), hs]
      by_cases z : gt hc 4 l 4 = -1
      · rw [if_pos z, if_pos z]
        rfl
      · rw [if_neg z, if_neg z]
        rfl
    by_cases z : gt hc 4 l 4 = -1
    · rw [if_pos z] at e1 rs
      obtain ⟨r, hc1, hr1, m1, m2, m3, m4, m5, m6, m7, m8⟩ := m_meets (p := gt hr 75 0 l) (w := 0) a1 a2 C.2.2.2.2.2.2.1
      have X1 : RB B n S c sid b k a cx hc1 hr1 := X.mk (C.pl m4 m6 m5 m8) (X.2.1.fr m4 rfl m5 rfl) m4 rfl (fun i _ => m4 1 2 (by simp) (by decide) i) m5 rfl (fun j _ => ⟨m5 72 j (by simp) (by simp) 0, m5 73 j (by simp) (by simp) 0⟩) (by rw [m4 2 6 (by simp) (by decide) 0]; exact Int.le_refl _)
      have I1 := I.fr m4 rfl m5 rfl
      have s14 : gt hc1 8 0 14 = gt hc 8 0 14 := m4 8 14 (by simp) (by decide) 0
      have e11 : gt hc1 1 k 1 = gt hc 1 k 1 := m4 1 1 (by simp) (by decide) k
      have u1 : F_X8_use 0 k l hc = if r = 0 then some (0, hc1) else zb (F_X8_fail 0 k 5 (gt hr 75 0 l) hc1) (fun _ h => some (0, h)) := by
        unfold F_X8_use F_X8_use_0
        rw [e1]
        simp only [zb]
        rw [if_pos trivial, if_pos (by decide), pc_8_0 a1, if_pos (by decide), e2]
        simp only []
        rw [pc_3_7 a1, if_pos (by decide), m1]
        simp only []
        by_cases r0 : r = 0
        · rw [if_pos r0, if_pos r0]
        · rw [if_neg r0, if_neg r0]
          have e2' := (c_mis (fl := 1) X1.1 l0 l1).2
          rw [if_neg lz, m5 75 l (by simp) (by simp) 0] at e2'
          rw [e2']
      rw [u1, rs, m2]
      simp only [zb]
      rcases m3 with r0 | r1
      · rw [if_pos r0, if_pos r0]
        obtain ⟨hc', q1, q2⟩ := l_go (op := 3) X1 I1 (by decide) (by rw [e11, zjs.fr m4 rfl]; exact e)
        exact ⟨hc', hr1, q1, rfl, q2.up (by omega)⟩
      · rw [if_neg (by omega), if_neg (by omega)]
        obtain ⟨hc', hr', f1, f2, f3, f4⟩ := l_fail (op := 3) (kd := 5) (p := gt hr 75 0 l) X1 I1.1 (by decide) (by decide)
        refine ⟨hc', hr', ?_, ?_, by rw [← s14]; exact f4⟩
        · rw [f1]; exact f2
        · rw [f3]
    · rw [if_neg z] at e1 rs
      refine fail 2 (by decide) (by decide) ?_ rs
      unfold F_X8_use F_X8_use_0
      rw [e1]
      simp only [zb]
      rw [if_neg (by decide), e2]
      simp only []
      rw [if_pos (by decide)]
theorem l_back {B : Int} {n : Nat} {S c l b0 base : Int} {sid : Int → Int} {b : Nat} {k a : Int} {cx : zK} {hc hr : zH} {t m : Nat} (X : RB B n S c sid b k a cx hc hr) (I : LI k a t m cx hc hr) (e : zjs hc (gt hc 1 k 1) (t + 1) = cx) (l0 : -1 ≤ l) (l1 : l < n) :
    ∃ hc' hr', zb (F_X8_bringBack 0 k l hc) (fun _ h => F_X8_doLine_223 0 k 4 h) = some (0, hc') ∧ F_X12_doSlot 0 4 t l b0 base hr = some (0, hr') ∧ RES B c (2 * b + 3 + 4 * (160 - gt hc 8 0 14)) hc' hr' := by
  have C := X.1
  have a1 := C.1
  have a2 := C.2.1
  have n160 := C.2.2.2.2.2.2.2.2.2.2.1.2.2.2.1
  obtain ⟨e1, e2⟩ := c_mis (fl := 0) C l0 l1
  by_cases ov : l = -1 ∨ gt hr 80 0 l = 0
  · obtain ⟨hc', hr', f1, f2, f3, f4⟩ := l_fail (op := 4) (kd := 3) (p := if l = -1 then -1 else gt hr 75 0 l) X I.1 (by decide) (by decide)
    refine ⟨hc', hr', ?_, ?_, f4⟩
    · have : (if l = -1 then (3 : Int) else if gt hr 80 0 l = 0 then 3 else if (0 : Int) = 0 then -1 else if gt hc 4 l 4 = -1 then -1 else 2) = 3 := by
        by_cases z : l = -1
        · rw [if_pos z]
        · rcases ov with y | y
          · exact absurd y z
          · rw [if_neg z, if_pos y]
      rw [this] at e1
      unfold F_X8_bringBack F_X8_bringBack_0
      rw [e1]
      simp only [zb]
      rw [if_neg (by decide), e2]
      simp only []
      rw [if_pos (by decide), f1]
      exact f2
    · unfold F_X12_doSlot F_X12_doSlot_0
      by_cases z : l = -1
      · rw [if_pos (by omega), r_over (k := k) (a := a) a2 l1 n160 l0, f3]
        rfl
      · rcases ov with y | y
        · exact absurd y z
        · rw [if_neg (by omega), if_pos (by decide), pr_40 a2, if_pos (by decide), if_pos ⟨by omega, by omega⟩, if_neg (by simpa using y), r_over (k := k) (a := a) a2 l1 n160 l0, f3]
          rfl
  · have lz : l ≠ -1 := fun z => ov (Or.inl z)
    have oz : gt hr 80 0 l ≠ 0 := fun z => ov (Or.inr z)
    have l00 : 0 ≤ l := by omega
    have K : LN n S (-1) sid hc hr := C.2.2.2.2.2.2.2.2.2.2.2.1
    have op : gt hr 80 0 l = 1 := by
      rcases (K.1 l l00 l1).2.1.2.1 with z | z
      · exact absurd z oz
      · exact z
    rw [if_neg lz, if_neg oz, if_pos rfl] at e1
    obtain ⟨r, hc1, hr1, g1, g2, g3, g4, g5, g6, g7, g8, g9, g10⟩ := m_gv (how := 0) C l00 l1 op
    have X1 : RB B n S c sid b k a cx hc1 hr1 := X.mk g8 (X.2.1.fr g4 rfl g6 rfl) g4 rfl (fun i _ => g4 1 2 (by simp) (by decide) i) g6 rfl (fun j _ => ⟨g6 72 j (by simp) (by simp) 0, g6 73 j (by simp) (by simp) 0⟩) (by rw [g4 2 6 (by simp) (by decide) 0]; exact Int.le_refl _)
    have I1 := I.fr g4 rfl g6 rfl
    have s14 : gt hc1 8 0 14 = gt hc 8 0 14 := g4 8 14 (by simp) (by decide) 0
    have e11 : gt hc1 1 k 1 = gt hc 1 k 1 := g4 1 1 (by simp) (by decide) k
    have e2' := (c_mis (fl := 0) X1.1 l0 l1).2
    rw [if_neg lz, g6 75 l (by simp) (by simp) 0] at e2'
    have u1 : F_X8_bringBack 0 k l hc = if r = 0 then some (0, hc1) else zb (F_X8_fail 0 k 6 (gt hr 75 0 l) hc1) (fun _ h => some (0, h)) := by
      unfold F_X8_bringBack F_X8_bringBack_0
      rw [e1]
      simp only [zb]
      rw [if_pos trivial, if_pos (by decide), g1]
      simp only []
      by_cases r0 : r = 0
      · rw [if_pos r0, if_pos r0]
      · rw [if_neg r0, if_neg r0, e2']
    have rs : F_X12_doSlot 0 4 t l b0 base hr = if r = 0 then some (0, hr1) else zb (F_X12_fail 0 6 t (gt hr 75 0 l) hr1) (fun _ h => some (0, h)) := by
      unfold F_X12_doSlot F_X12_doSlot_0
      rw [if_neg (by omega), if_pos (by decide), pr_40 a2, if_pos (by decide), if_pos ⟨by omega, by omega⟩, if_pos oz, pr_35 a2, if_pos (by decide), if_neg (by decide), g2]
      rfl
    rw [u1, rs]
    rcases g3 with r0 | r1
    · rw [if_pos r0, if_pos r0]
      obtain ⟨hc', q1, q2⟩ := l_go (op := 4) X1 I1 (by decide) (by rw [e11, zjs.fr g4 rfl]; exact e)
      exact ⟨hc', hr1, q1, rfl, q2.up (by omega)⟩
    · rw [if_neg (by omega), if_neg (by omega)]
      obtain ⟨hc', hr', f1, f2, f3, f4⟩ := l_fail (op := 4) (kd := 6) (p := gt hr 75 0 l) X1 I1.1 (by decide) (by decide)
      refine ⟨hc', hr', ?_, ?_, by rw [← s14]; exact f4⟩
      · rw [f1]; exact f2
      · rw [f3]; rfl
/-- a SLOT gets the new LOAN -/
theorem SL.nw {n : Nat} {k s : Int} {hc hr hc' hr' : zH} (K : SL n k hc hr) (kb : 1 ≤ k) (sl : 0 ≤ s ∧ s < 8) (h20 : ∀ i j, gt hc' 20 i j = if i = k ∧ j = s then (n : Int) else gt hc 20 i j) (h74 : ∀ j, gt hr' 74 0 j = if j = 8 * (k - 1) + s then (n : Int) else gt hr 74 0 j) : SL (n + 1) k hc' hr' := by
  intro i j i1 i2 j0 j1
  rw [h20, h74]
  by_cases z : i = k ∧ j = s
  · rw [if_pos z, if_pos (by omega)]
    exact ⟨rfl, by omega, by omega⟩
  · rw [if_neg z, if_neg (by omega)]
    obtain ⟨q1, q2, q3⟩ := K i j i1 i2 j0 j1
    exact ⟨q1, q2, by omega⟩
theorem RQ.nw {n : Nat} {S : Int} {sid : Int → Int} {b : Nat} {k a : Int} {lc lr : List Nat} {mc mr : List (Nat × Int)} {hc hr hc' hr' : zH} (K : RQ n S sid b k a hc hr) (x : SX n b hc hr) (xc : zFx lc mc hc hc') (dc : zdj [] [(8, 3), (8, 5), (8, 7), (8, 14), (8, 15), (8, 16)] lc mc = true) (xr : zFx lr mr hr hr') (dr : zdj [] [(12, 25), (12, 33), (12, 67), (12, 60), (12, 59), (12, 55), (12, 58), (12, 44)] lr mr = true) (o : gt hr' 12 0 43 = gt hr 12 0 43 + 1) : RQ (n + 1) S sid b k a hc' hr' := by
  obtain ⟨q, ⟨r1, r2, r3, r4, r5, r6, r7, r8, r9, r10, r11, r12, r13⟩⟩ := K
  obtain ⟨x1, x2, x3, x4⟩ := x
  unfold RQ
  rw [zdf2 dc xc (c := 8) (j := 3) (by decide) 0, zdf2 dc xc (c := 8) (j := 5) (by decide) 0, zdf2 dc xc (c := 8) (j := 7) (by decide) 0, zdf2 dc xc (c := 8) (j := 14) (by decide) 0, zdf2 dc xc (c := 8) (j := 15) (by decide) 0, zdf2 dc xc (c := 8) (j := 16) (by decide) 0,
    zdf2 dr xr (c := 12) (j := 25) (by decide) 0, zdf2 dr xr (c := 12) (j := 33) (by decide) 0, zdf2 dr xr (c := 12) (j := 67) (by decide) 0, zdf2 dr xr (c := 12) (j := 60) (by decide) 0, zdf2 dr xr (c := 12) (j := 59) (by decide) 0, zdf2 dr xr (c := 12) (j := 55) (by decide) 0, zdf2 dr xr (c := 12) (j := 58) (by decide) 0, zdf2 dr xr (c := 12) (j := 44) (by decide) 0, o]
  exact ⟨q, r1, r2, r3, by omega, by omega, by omega, r7, r8, r9, r10, r11, r12, r13⟩
theorem l_lend {B : Int} {n : Nat} {S c l s : Int} {sid : Int → Int} {b : Nat} {k a : Int} {cx : zK} {hc hr : zH} {t m : Nat} (X : RB B n S c sid b k a cx hc hr) (I : LI k a t m cx hc hr) (E : SX n b hc hr) (e : zjs hc (gt hc 1 k 1) (t + 1) = cx) (l0 : -1 ≤ l) (l1 : l < n) (sl : 0 ≤ s ∧ s < 8) :
    ∃ hc' hr', zb (F_X8_lendOn 0 k l s hc) (fun _ h => F_X8_doLine_223 0 k 5 h) = some (0, hc') ∧ F_X12_doSlot 0 5 t l s (8 * (k - 1)) hr = some (0, hr') ∧ RES B c (2 * b + 3 + 4 * (160 - gt hc 8 0 14)) hc' hr' := by
  obtain ⟨x1, x2, x3, x4, x5, x6, x7, x8, x9, x10, x11, x12, x13, x14, x15, x16, x17, x18⟩ := X.at
  have C := X.1
  have a1 := C.1
  have a2 := C.2.1
  have n160 := C.2.2.2.2.2.2.2.2.2.2.1.2.2.2.1
  have hn := C.2.2.2.2.2.2.2.2.2.2.1.2.1
  have K : LN n S (-1) sid hc hr := C.2.2.2.2.2.2.2.2.2.2.2.1
  obtain ⟨e1, e2⟩ := c_mis (fl := 1) C l0 l1
  have rq := X.2.2.2.2.1.2
  by_cases ov : l = -1 ∨ gt hr 80 0 l = 0
  · obtain ⟨hc', hr', f1, f2, f3, f4⟩ := l_fail (op := 5) (kd := 3) (p := if l = -1 then -1 else gt hr 75 0 l) X I.1 (by decide) (by decide)
    refine ⟨hc', hr', ?_, ?_, f4⟩
    · have : (if l = -1 then (3 : Int) else if gt hr 80 0 l = 0 then 3 else if (1 : Int) = 0 then -1 else if gt hc 4 l 4 = -1 then -1 else 2) = 3 := by
        by_cases z : l = -1
        · rw [if_pos z]
        · rcases ov with y | y
          · exact absurd y z
          · rw [if_neg z, if_pos y]
      rw [this] at e1
      unfold F_X8_lendOn F_X8_lendOn_0
      rw [e1]
      simp only [zb]
      rw [if_neg (by decide), e2]
      simp only []
      rw [if_pos (by decide), f1]
      exact f2
    · unfold F_X12_doSlot F_X12_doSlot_0
      by_cases z : l = -1
      · rw [if_pos (by omega), r_over (k := k) (a := a) a2 l1 n160 l0, f3]
        rfl
      · rcases ov with y | y
        · exact absurd y z
        · rw [if_neg (by omega), if_pos (by decide), pr_40 a2, if_pos (by decide), if_pos ⟨by omega, by omega⟩, if_neg (by simpa using y), r_over (k := k) (a := a) a2 l1 n160 l0, f3]
          rfl
  · have lz : l ≠ -1 := fun z => ov (Or.inl z)
    have oz : gt hr 80 0 l ≠ 0 := fun z => ov (Or.inr z)
    have l00 : 0 ≤ l := by omega
    have op : gt hr 80 0 l = 1 := by
      rcases (K.1 l l00 l1).2.1.2.1 with z | z
      · exact absurd z oz
      · exact z
    have hs := m_has n160 K a2 hn l00 l1
    rw [if_neg lz, if_neg oz, if_neg (by decide)] at e1
    rw [if_neg lz] at e2
    have m1 := (K.1 l l00 l1).1.1
    have rs : F_X12_doSlot 0 5 t l s (8 * (k - 1)) hr = if gt hc 4 l 4 = -1 then zb (F_X12_newLoan 0 (gt hr 75 0 l) 2 l hr) (fun r15 h15 => some (0, pt h15 74 0 (8 * (k - 1) + s) r15)) else zb (F_X12_fail 0 2 t (gt hr 75 0 l) hr) (fun _ h => some (0, h)) := by
      have ri : -1000000 ≤ 8 * (k - 1) + s ∧ 8 * (k - 1) + s ≤ 1000000 := by omega
      have rb : 0 ≤ 8 * (k - 1) + s ∧ 8 * (k - 1) + s < 88 := by omega
      unfold F_X12_doSlot F_X12_doSlot_0
      rw [if_neg (by omega), if_pos (by decide), pr_40 a2, if_pos (by decide), if_pos ⟨by omega, by omega⟩, if_pos oz, pr_35 a2, if_pos (by decide), if_pos (by decide), if_pos (by decide), hs]
      by_cases z : gt hc 4 l 4 = -1
      · rw [if_pos z, if_pos z]
        simp only [zb]
        rw [if_pos trivial, if_neg (by decide), pr_32 a2, wI_s ri]
        simp only [if_pos rb]
        rfl
      · rw [if_neg z, if_neg z]
        rfl
    by_cases z : gt hc 4 l 4 = -1
    · rw [if_pos z] at e1 rs
      obtain ⟨p, hp⟩ : ∃ p : Nat, (p : Int) = b + k := ⟨(b + k).toNat, by omega⟩
      obtain ⟨hc1, hr1, g1, g2, g3, g4, g5, g6, g7⟩ := m_lend (s := s) (k := k) C (by have := E.1; omega) (X.2.2.1.sk p hp) (by omega) (by omega) x14 x9 x10 sl ⟨x7, x8⟩ ⟨rq.2.2.2.2.1, by have := E.2.1; omega⟩ l00 l1 op z
      obtain ⟨hr2, h2⟩ : ∃ hr2, hr2 = pt hr1 74 0 (8 * (k - 1) + s) n := ⟨_, rfl⟩
      have y2 : zFx [74] [] hr1 hr2 := by rw [h2]; exact (zFx.rf hr1).p1 rfl
      have yr : zFx [74, 75, 76, 77, 78, 79, 80] [(12, 34), (12, 43), (12, 56)] hr hr2 := (g4.wk rfl rfl).tr (y2.wk rfl rfl)
      have en : FrN hc hc1 := nf_X8_makeLoan g1
      have X1 : RB B (n + 1) S c sid b k a cx hc1 hr2 := by
        refine ⟨g5.fr (lc := []) (mc := []) (zFx.rf hc1) rfl (frrN hc1) y2 rfl, X.2.1.fr g3 rfl yr rfl, X.2.2.1.fr g3 rfl (fun i _ => g3 1 2 (by simp) (by decide) i) yr rfl (fun j _ => ⟨yr 72 j (by simp) (by simp) 0, yr 73 j (by simp) (by simp) 0⟩) (by rw [g3 2 6 (by simp) (by decide) 0]; exact Int.le_refl _), X.2.2.2.1, X.2.2.2.2.1.nw E g3 rfl yr rfl (by rw [y2 12 43 (by simp) (by simp) 0]; exact g6), X.2.2.2.2.2.nw x7 sl g7 fun j => ?_⟩
        rw [h2]
        by_cases y : j = 8 * (k - 1) + s
        · simp [gt_pt, y]
        · rw [if_neg y, ← g4 74 j (by simp) (by simp) 0]; simp [gt_pt, y]
      have I1 := I.fr g3 rfl yr rfl
      have s14 : gt hc1 8 0 14 = gt hc 8 0 14 := g3 8 14 (by simp) (by decide) 0
      have e11 : gt hc1 1 k 1 = gt hc 1 k 1 := g3 1 1 (by simp) (by decide) k
      obtain ⟨hc', q1, q2⟩ := l_go (op := 5) X1 I1 (by decide) (by rw [e11, zjs.fr g3 rfl]; exact e)
      refine ⟨hc', hr2, ?_, ?_, q2.up (by omega)⟩
      · unfold F_X8_lendOn F_X8_lendOn_0
        rw [e1]
        simp only [zb]
        rw [if_pos trivial, if_pos l00, if_pos (by decide), m1, g1]
        exact q1
      · rw [rs, g2]
        simp only [zb]
        rw [h2]
    · rw [if_neg z] at e1 rs
      obtain ⟨hc', hr', f1, f2, f3, f4⟩ := l_fail (op := 5) (kd := 2) (p := gt hr 75 0 l) X I.1 (by decide) (by decide)
      refine ⟨hc', hr', ?_, ?_, f4⟩
      · unfold F_X8_lendOn F_X8_lendOn_0
        rw [e1]
        simp only [zb]
        rw [if_neg (by decide), e2]
        simp only []
        rw [if_pos (by decide), f1]
        exact f2
      · rw [rs, f3]
        rfl
