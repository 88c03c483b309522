/-! what ends a LINE: on, or a FAILURE, or SPENT -/
theorem Stk.fr {hc hr hc' hr' : zH} {sid : Int → Int} {b : Nat} {k S a : Int} {cx : zK} {lc lr : List Nat} {mc mr : List (Nat × Int)} (K : Stk hc hr sid b k S a cx) (xc : zFx lc mc hc hc') (dc : zdj [43, 44, 45, 0] [(1, 0), (1, 1), (9, 0), (9, 1), (11, 2)] lc mc = true) (x12 : ∀ i, i ≠ k → gt hc' 1 i 2 = gt hc 1 i 2)
    (xr : zFx lr mr hr hr') (dr : zdj [62, 68, 69, 70, 71] [] lr mr = true) (x72 : ∀ j, j ≠ a → gt hr' 72 0 j = gt hr 72 0 j ∧ gt hr' 73 0 j = gt hr 73 0 j) (sf : gt hc 2 0 6 ≤ gt hc' 2 0 6) : Stk hc' hr' sid b k S a cx := by
  have g43 : ∀ q : Nat, ([43, 44, 45] : List Nat).contains q = true → gt hc' q = gt hc q := fun q z => by funext i j; exact zdk (zwk (l2 := [43, 44, 45]) (m2 := []) dc rfl rfl) xc z i j
  exact K.cg (x := a) (g43 43 rfl) (g43 44 rfl) (g43 45 rfl) (zdf2 dc xc (by decide) 0) (by funext j; exact zdk dr xr (by decide) 0 j) sf (Or.inl rfl) (fun i _ _ j => zdk dc xc (by decide) i j) (fun i _ _ => ⟨zdf2 dc xc (by decide) i, zdf2 dc xc (by decide) i, fun w => x12 i (by omega)⟩) (fun i _ _ => ⟨zdf2 dc xc (by decide) i, zdf2 dc xc (by decide) i, rfl⟩) (fun j _ _ => ⟨zdk dr xr (by decide) 0 j, zdk dr xr (by decide) 0 j, zdk dr xr (by decide) 0 j, zdk dr xr (by decide) 0 j, x72 j⟩)
theorem zS.fr {hc hr hc' hr' : zH} {n : Int} {m : Nat} {lc lr : List Nat} {mc mr : List (Nat × Int)} (K : zS hc hr n m) (xc : zFx lc mc hc hc') (dc : zdj [43, 44, 45] [(11, 2)] lc mc = true) (xr : zFx lr mr hr hr') (dr : zdj [62] [] lr mr = true) : zS hc' hr' n m := by
  have g43 : ∀ q : Nat, ([43, 44, 45] : List Nat).contains q = true → gt hc' q = gt hc q := fun q z => by funext i j; exact zdk (zwk (l2 := [43, 44, 45]) (m2 := []) dc rfl rfl) xc z i j
  unfold zS at K ⊢
  rw [g43 43 rfl, g43 44 rfl, g43 45 rfl, zdf2 dc xc (c := 11) (j := 2) (by decide) 0, zdk dr xr (c := 62) rfl 0 n]
  exact K
theorem zjs.fr {hc hc' : zH} {n : Int} {t : Nat} {lc : List Nat} {mc : List (Nat × Int)} (xc : zFx lc mc hc hc') (dc : zdj [43, 44, 45] [] lc mc = true) : zjs hc' n t = zjs hc n t := by
  have g43 : ∀ q : Nat, ([43, 44, 45] : List Nat).contains q = true → gt hc' q = gt hc q := fun q z => by funext i j; exact zdk dc xc z i j
  unfold zjs
  rw [g43 43 rfl, g43 44 rfl, g43 45 rfl]
/-- the pieces together again -/
theorem RB.mk {B : Int} {n : Nat} {S c : Int} {sid : Int → Int} {b : Nat} {k a : Int} {cx : zK} {lc lr : List Nat} {mc mr : List (Nat × Int)} {hc hr hc' hr' : zH} (X : RB B n S c sid b k a cx hc hr) (C : CR B n S c sid hc' hr') (F : RF hc' hr') (xc : zFx lc mc hc hc') (dc : zdj [43, 44, 45, 0, 20] [(1, 0), (1, 1), (9, 0), (9, 1), (11, 2), (8, 3), (8, 5), (8, 7), (8, 14), (8, 15), (8, 16)] lc mc = true) (x12 : ∀ i, i ≠ k → gt hc' 1 i 2 = gt hc 1 i 2)
    (xr : zFx lr mr hr hr') (dr : zdj [62, 68, 69, 70, 71, 74] [(12, 25), (12, 33), (12, 67), (12, 60), (12, 59), (12, 55), (12, 43), (12, 58), (12, 44)] lr mr = true) (x72 : ∀ j, j ≠ a → gt hr' 72 0 j = gt hr 72 0 j ∧ gt hr' 73 0 j = gt hr 73 0 j) (sf : gt hc 2 0 6 ≤ gt hc' 2 0 6) : RB B n S c sid b k a cx hc' hr' := by
  obtain ⟨k1, k2, k3, k4, k5, k6⟩ := X
  exact ⟨C, F, k3.fr xc (zwk dc rfl rfl) x12 xr (zwk dr rfl rfl) x72 sf, k4, k5.fr xc (zwk dc rfl rfl) xr (zwk dr rfl rfl), k6.fr xc (zwk dc rfl rfl) xr (zwk dr rfl rfl)⟩
/-- what a move comes to: on, with less before it, or SPENT -/
def RES (B c q : Int) (hc hr : zH) : Prop := (∃ (n : Nat) (S : Int) (sid : Int → Int) (b : Nat) (k a : Int) (cx : zK), RU B n S c sid b k a cx hc hr ∧ 2 * (b : Int) + (if gt hc 8 0 12 = 0 then 1 else 0) + 4 * (160 - gt hc 8 0 14) ≤ q) ∨ (OV B c hc hr ∧ gt hr 12 0 60 = 1)
theorem RES.up {B c q q' : Int} {hc hr : zH} (X : RES B c q hc hr) (h : q ≤ q') : RES B c q' hc hr := by
  rcases X with ⟨n, S, sid, b, k, a, cx, X, Y⟩ | X
  · exact Or.inl ⟨n, S, sid, b, k, a, cx, X, by omega⟩
  · exact Or.inr X
theorem RB.at {B : Int} {n : Nat} {S c : Int} {sid : Int → Int} {b : Nat} {k a : Int} {cx : zK} {hc hr : zH} (X : RB B n S c sid b k a cx hc hr) : 0 ≤ a ∧ a < 150 ∧ gt hr 12 0 67 = a ∧ gt hr 70 0 a = gt hc 1 k 1 ∧ gt hr 68 0 a = 17 ∧ gt hc 1 k 0 = gt hc 1 k 1 + 1 ∧ 1 ≤ k ∧ k ≤ 10 ∧ 1 ≤ S ∧ S ≤ 90 ∧ (b : Int) ≤ 90 ∧ (b : Int) + k ≤ 100 ∧ gt hr 12 0 25 = b + k ∧ gt hc 8 0 7 = S ∧ gt hc 8 0 3 = k ∧ gt hc 8 0 5 = b ∧ a < b + k ∧ 1 ≤ b := by
  obtain ⟨k1, k2, k3, k4, ⟨⟨q1, q2, q3, q4, q5, q6, q7, q8, q9, q10⟩, _⟩, k6⟩ := X
  obtain ⟨b1, b2, b3, b4, b5, b6, b7, b8⟩ := k3.bd
  obtain ⟨c1, c2, c3, c4, c5⟩ := k3.ac q9
  obtain ⟨d1, d2, d3⟩ := b8 q9
  exact ⟨d1, by omega, q6, c2, c1, c3, q9, q8, d3, by omega, by omega, by omega, q4, q3, q1, q2, b5, by omega⟩
theorem s_goTo {h : zH} {a x : Int} (hp : PIr h) (e : gt h 12 0 67 = a) (a0 : 0 ≤ a) (a1 : a < 150) : F_X12_goTo 0 x h = some (0, pt h 72 0 a x) := by
  unfold F_X12_goTo F_X12_goTo_0
  rw [if_pos (by decide), pr_30 hp, if_pos (by decide), e, if_pos ⟨a0, a1⟩]
theorem m_fail {B : Int} {n : Nat} {S c : Int} {sid : Int → Int} {b : Nat} {k a : Int} {cx : zK} {hc hr : zH} {kd t p : Int} (X : RB B n S c sid b k a cx hc hr) (ht : gt hc 1 k 2 = t) (kd0 : 0 ≤ kd) (kd1 : kd < 12) :
    ∃ hc' hr', F_X8_fail 0 k kd p hc = some (0, hc') ∧ F_X12_fail 0 kd t p hr = some (0, hr') ∧ gt hc' 8 0 12 ≠ 0 ∧ RES B c (2 * b + 4 * (160 - gt hc 8 0 14)) hc' hr' := by
  obtain ⟨x1, x2, x3, x4, x5, x6, x7, x8, x9, x10, x11, x12, x13, x14, x15, x16, x17, x18⟩ := X.at
  have C := X.1
  have F := X.2.1
  have a1 := C.1
  have a2 := C.2.1
  by_cases f16 : gt hc 2 0 6 = 16
  · obtain ⟨_, hr', _, _, _, g2, _, _, g5, _⟩ := X.sp.go
    obtain ⟨hc', hh⟩ : ∃ hc', hc' = pt (pt hc 8 0 13 (-1)) 8 0 12 4 := ⟨_, rfl⟩
    have xc : zFx [] [(8, 12), (8, 13)] hc hc' := by rw [hh]; exact ((zFx.rf hc).p2 rfl).p2 rfl
    have nc : FrN hc hc' := by rw [hh]; exact frpN (frpN (frrN hc))
    have v12 : gt hc' 8 0 12 = 4 := by rw [hh]; rfl
    refine ⟨hc', hr', ?_, ?_, by rw [v12]; decide, Or.inr ⟨⟨v12, by rw [xc 8 3 (by simp) (by decide) 0, x15]; exact x7, hr, X.sp.fr xc rfl nc (zFx.rf (l := []) (m := []) hr) rfl (fun _ _ _ => ⟨rfl, fun _ => rfl⟩), g2⟩, g5⟩⟩
    · unfold F_X8_fail F_X8_fail_0
      rw [if_pos (by decide), if_pos (show 0 ≤ k by omega), pc_8_10 a1, if_pos (by decide), c_add_full f16]
      simp only [zb]
      rw [if_neg (by decide), hh]
    · unfold F_X12_fail F_X12_fail_0
      rw [if_pos (by decide), if_neg (by rw [← F.1]; simpa using f16), g2]
      rfl
  · have f15 : gt hc 2 0 6 < 16 := by have := F.2.2.1; omega
    obtain ⟨hc1, hr1, v1, v2, v3, v4, v5, v6, v7, v8⟩ := m_add (kd := kd) (a := gt hc 1 k 1) (ln := t) (p := p) a1 a2 F f15 (by rw [x3]; exact ⟨x1, x2⟩) (by rw [x3]; exact x4) kd0 kd1
    obtain ⟨hc', hh⟩ : ∃ hc', hc' = pt (pt hc1 8 0 13 (gt hc 2 0 6)) 8 0 12 3 := ⟨_, rfl⟩
    obtain ⟨hr', hk⟩ : ∃ hr', hr' = pt (pt hr1 12 0 53 (gt hc 2 0 6)) 12 0 52 3 := ⟨_, rfl⟩
    have y1 : zFx [] [(8, 12), (8, 13)] hc1 hc' := by rw [hh]; exact ((zFx.rf hc1).p2 rfl).p2 rfl
    have y2 : zFx [] [(12, 52), (12, 53)] hr1 hr' := by rw [hk]; exact ((zFx.rf hr1).p2 rfl).p2 rfl
    have nc : FrN hc hc' := v4.tr (by rw [hh]; exact frpN (frpN (frrN hc1)))
    have xc : zFx [21, 22, 23, 24, 25, 26] [(2, 6), (8, 12), (8, 13)] hc hc' := (v3.wk rfl rfl).tr (y1.wk rfl rfl)
    have xr : zFx [83, 84, 85, 86, 87, 88] [(12, 45), (12, 52), (12, 53)] hr hr' := (v5.wk rfl rfl).tr (y2.wk rfl rfl)
    have v12 : gt hc' 8 0 12 = 3 ∧ gt hc' 8 0 13 = gt hc 2 0 6 ∧ gt hc' 2 0 6 = gt hc 2 0 6 + 1 := by rw [hh]; exact ⟨rfl, rfl, v8⟩
    have v52 : gt hr' 12 0 52 = 3 ∧ gt hr' 12 0 53 = gt hc 2 0 6 := by rw [hk]; exact ⟨rfl, rfl⟩
    have F' : RF hc' hr' := v7.fr y1 rfl y2 rfl
    refine ⟨hc', hr', ?_, ?_, by rw [v12.1]; decide, Or.inl ⟨n, S, sid, b, k, a, cx, ⟨X.mk (C.fr xc rfl nc xr rfl) F' xc rfl (fun i _ => xc 1 2 (by simp) (by decide) i) xr rfl (fun j _ => ⟨xr 72 j (by simp) (by simp) 0, xr 73 j (by simp) (by simp) 0⟩) (by omega), ⟨by rw [v12.1, v52.1], by rw [v12.1]; decide, by rw [v12.1]; decide, fun _ => ⟨by rw [v12.2.1, v52.2], by rw [v12.2.1]; exact F.2.1, by omega⟩⟩, fun z => by omega⟩, ?_⟩⟩
    · unfold F_X8_fail F_X8_fail_0
      rw [if_pos (by decide), if_pos (show 0 ≤ k by omega), pc_8_10 a1, if_pos (by decide), ht, v1]
      simp only [zb]
      have := F.2.1
      rw [if_pos (by omega), hh]
    · unfold F_X12_fail F_X12_fail_0
      rw [if_pos (by decide), if_pos (by rw [← F.1]; simpa using f16), v2]
      simp only [zb]
      rw [hk]
    · rw [if_neg (by omega), xc 8 14 (by simp) (by decide) 0]; omega
/-- a STEP -/
theorem m_step {B c : Int} {hc hr : zH} (st : gt hc 8 0 14 = gt hr 12 0 55) (s0 : 0 ≤ gt hc 8 0 14) (s1 : gt hc 8 0 14 ≤ 160) (X : SP B c hc hr) (k1 : 1 ≤ gt hc 8 0 3) :
    (gt hc 8 0 14 < 160 ∧ F_X8_step 0 hc = some (1, pt hc 8 0 14 (gt hc 8 0 14 + 1)) ∧ F_X12_step 0 hr = some (1, pt hr 12 0 55 (gt hc 8 0 14 + 1))) ∨ (F_X8_step 0 hc = some (0, pt hc 8 0 12 4) ∧ ∃ hr', F_X12_step 0 hr = some (0, hr') ∧ OV B c (pt hc 8 0 12 4) hr' ∧ gt hr' 12 0 60 = 1) := by
  have r1 : -1000000 ≤ gt hc 8 0 14 + 1 ∧ gt hc 8 0 14 + 1 ≤ 1000000 := by omega
  unfold F_X8_step F_X8_step_0 F_X12_step F_X12_step_0
  by_cases c160 : gt hc 8 0 14 < 160
  · refine Or.inl ⟨c160, ?_, ?_⟩
    · rw [if_pos (by decide), if_pos c160, wI_s r1]
    · rw [if_pos (by decide), ← st, if_pos (by omega), wI_s r1]
  · obtain ⟨_, hr', _, _, _, g2, _, _, g5, _⟩ := X.go
    refine Or.inr ⟨?_, hr', ?_, ⟨rfl, k1, hr, X.fr (lc := []) (mc := [(8, 12)]) ((zFx.rf hc).p2 rfl) rfl (frpN (frrN hc)) (zFx.rf (l := []) (m := []) hr) rfl (fun _ _ _ => ⟨rfl, fun _ => rfl⟩), g2⟩, g5⟩
    · rw [if_pos (by decide), if_neg c160]
    · rw [if_pos (by decide), ← st, if_neg (by simp; omega), g2]
      rfl
theorem RB.st {B : Int} {n : Nat} {S c : Int} {sid : Int → Int} {b : Nat} {k a : Int} {cx : zK} {hc hr : zH} (X : RB B n S c sid b k a cx hc hr) (h : gt hc 8 0 14 < 160) : RB B n S c sid b k a cx (pt hc 8 0 14 (gt hc 8 0 14 + 1)) (pt hr 12 0 55 (gt hc 8 0 14 + 1)) := by
  have xc : zFx [] [(8, 14)] hc (pt hc 8 0 14 (gt hc 8 0 14 + 1)) := (zFx.rf hc).p2 rfl
  have xr : zFx [] [(12, 55)] hr (pt hr 12 0 55 (gt hc 8 0 14 + 1)) := (zFx.rf hr).p2 rfl
  obtain ⟨k1, k2, k3, k4, ⟨⟨q1, q2, q3, q4, q5, q6, q7, q8, q9, q10⟩, ⟨r1, r2, r3, r4, r5, r6, r7, r8, r9, r10, r11, r12, r13⟩⟩, k6⟩ := X
  refine ⟨k1.fr xc rfl (frpN (frrN hc)) xr rfl, k2.fr xc rfl xr rfl, k3.fr xc rfl (fun i _ => xc 1 2 (by simp) (by decide) i) xr rfl (fun j _ => ⟨xr 72 j (by simp) (by simp) 0, xr 73 j (by simp) (by simp) 0⟩) (Int.le_refl _), k4, ⟨⟨q1, q2, q3, q4, q5, q6, q7, q8, q9, q10⟩, ?_⟩, k6.fr xc rfl xr rfl⟩
  refine ⟨rfl, ?_, ?_, ?_, r5, ?_, r7, r8, ?_, r10, r11, ?_, r13⟩
  · show 0 ≤ gt hc 8 0 14 + 1
    omega
  · show gt hc 8 0 14 + 1 ≤ 160
    omega
  · show (n : Int) ≤ gt hc 8 0 14 + 1
    omega
  · show gt hr 12 0 43 ≤ gt hc 8 0 14 + 1
    omega
  · show gt hc 8 0 16 + b ≤ gt hc 8 0 14 + 1 + 1
    omega
  · show gt hr 12 0 44 ≤ gt hc 8 0 14 + 1 + 1
    omega
/-- a LINE that is being done: where the ACT stands -/
def LI (k a : Int) (t m : Nat) (cx : zK) (hc hr : zH) : Prop := gt hc 1 k 2 = t ∧ gt hr 72 0 a = (t : Int) + 1 ∧ gt hr 73 0 a = t ∧ zS hc hr (gt hc 1 k 1) m ∧ t < m ∧ zjs hc (gt hc 1 k 1) t = cx ∧ gt hc 8 0 12 = 0 ∧ gt hr 12 0 52 = 0
theorem LI.fr {k a : Int} {t m : Nat} {cx : zK} {hc hr hc' hr' : zH} {lc lr : List Nat} {mc mr : List (Nat × Int)} (K : LI k a t m cx hc hr) (xc : zFx lc mc hc hc') (dc : zdj [43, 44, 45] [(1, 1), (1, 2), (11, 2), (8, 12)] lc mc = true) (xr : zFx lr mr hr hr') (dr : zdj [62, 72, 73] [(12, 52)] lr mr = true) : LI k a t m cx hc' hr' := by
  obtain ⟨k1, k2, k3, k4, k5, k6, k7, k8⟩ := K
  unfold LI
  rw [zdf2 dc xc (c := 1) (j := 2) (by decide) k, zdf2 dc xc (c := 1) (j := 1) (by decide) k, zdf2 dc xc (c := 8) (j := 12) (by decide) 0, zdk dr xr (c := 72) (by decide) 0 a, zdk dr xr (c := 73) (by decide) 0 a, zdf2 dr xr (c := 12) (j := 52) (by decide) 0, zjs.fr xc (zwk dc rfl rfl)]
  exact ⟨k1, k2, k3, k4.fr xc (zwk dc rfl rfl) xr (zwk dr rfl rfl), k5, k6, k7, k8⟩
/-- a LINE is done, and the next one comes -/
theorem l_go {B : Int} {n : Nat} {S c op : Int} {sid : Int → Int} {b : Nat} {k a : Int} {cx : zK} {hc hr : zH} {t m : Nat} (X : RB B n S c sid b k a cx hc hr) (I : LI k a t m cx hc hr) (o6 : op ≤ 6) (e : zjs hc (gt hc 1 k 1) (t + 1) = cx) :
    ∃ hc', F_X8_doLine_223 0 k op hc = some (0, hc') ∧ RES B c (2 * b + 1 + 4 * (160 - gt hc 8 0 14)) hc' hr := by
  obtain ⟨x1, x2, x3, x4, x5, x6, x7, x8, x9, x10, x11, x12, x13, x14, x15, x16, x17, x18⟩ := X.at
  obtain ⟨k1, k2, k3, k4, k5, k6, k7, k8⟩ := I
  have m40 := (k4.e X.1.2.2.2.2.2.2.2.2.2.1).2.1
  have rt : -1000000 ≤ (t : Int) + 1 ∧ (t : Int) + 1 ≤ 1000000 := by omega
  obtain ⟨hc', hh⟩ : ∃ hc', hc' = pt hc 1 k 2 ((t : Int) + 1) := ⟨_, rfl⟩
  have xc : zFx [] [(1, 2)] hc hc' := by rw [hh]; exact (zFx.rf hc).p2 rfl
  have nc : FrN hc hc' := by rw [hh]; exact frpN (frrN hc)
  have v : gt hc' 1 k 2 = (t : Int) + 1 := by rw [hh]; simp [gt_pt]
  have w : ∀ i, i ≠ k → gt hc' 1 i 2 = gt hc 1 i 2 := fun i z => by rw [hh]; simp [gt_pt, z]
  have v12 : gt hc' 8 0 12 = 0 := (xc 8 12 (by simp) (by decide) 0).trans k7
  have v11 : gt hc' 1 k 1 = gt hc 1 k 1 := xc 1 1 (by simp) (by decide) k
  refine ⟨hc', ?_, Or.inl ⟨n, S, sid, b, k, a, cx, ⟨X.fr xc rfl nc w (zFx.rf (l := []) (m := []) hr) rfl (fun _ _ => ⟨rfl, rfl⟩), ⟨by rw [v12, k8], by rw [v12]; decide, by rw [v12]; decide, fun z => by omega⟩, fun _ => ⟨t + 1, m, v, k2, ?_, k5, ?_⟩⟩, ?_⟩⟩
  · unfold F_X8_doLine_223
    rw [if_pos (by decide), if_neg (by simpa using k7), if_neg (by omega), if_pos (show 0 ≤ k by omega), k1, wI_s rt, hh]
  · rw [v11]; exact k4.fr xc rfl (zFx.rf (l := []) (m := []) hr) rfl
  · rw [v11, zjs.fr xc rfl]; exact e
  · rw [if_pos v12, xc 8 14 (by simp) (by decide) 0]; exact Int.le_refl _
theorem l_no {k op : Int} {hc : zH} (w : gt hc 8 0 12 ≠ 0) : F_X8_doLine_223 0 k op hc = some (0, hc) := by
  unfold F_X8_doLine_223
  rw [if_pos (by decide), if_pos w]
/-- a LINE that fails -/
theorem l_fail {B : Int} {n : Nat} {S c op : Int} {sid : Int → Int} {b : Nat} {k a : Int} {cx : zK} {hc hr : zH} {kd t p : Int} (X : RB B n S c sid b k a cx hc hr) (ht : gt hc 1 k 2 = t) (kd0 : 0 ≤ kd) (kd1 : kd < 12) :
    ∃ hc' hr', F_X8_fail 0 k kd p hc = some (0, hc') ∧ F_X8_doLine_223 0 k op hc' = some (0, hc') ∧ F_X12_fail 0 kd t p hr = some (0, hr') ∧ RES B c (2 * b + 3 + 4 * (160 - gt hc 8 0 14)) hc' hr' := by
  obtain ⟨hc', hr', e1, e2, e3, e4⟩ := m_fail (p := p) X ht kd0 kd1
  exact ⟨hc', hr', e1, l_no e3, e2, e4.up (by omega)⟩
/-- what a SLOT's LOAN is worth -/
theorem c_mis {B : Int} {n : Nat} {S c l fl : Int} {sid : Int → Int} {hc hr : zH} (C : CR B n S c sid hc hr) (l0 : -1 ≤ l) (l1 : l < n) :
    F_X8_misuseOf l fl hc = some (if l = -1 then 3 else if gt hr 80 0 l = 0 then 3 else if fl = 0 then -1 else if gt hc 4 l 4 = -1 then -1 else 2, hc) ∧ F_X8_partOf l hc = some (if l = -1 then -1 else gt hr 75 0 l, hc) := by
  have K : LN n S (-1) sid hc hr := C.2.2.2.2.2.2.2.2.2.2.2.1
  by_cases c0 : l = -1
  · unfold F_X8_misuseOf F_X8_misuseOf_0 F_X8_partOf F_X8_partOf_0
    rw [if_pos c0, if_pos c0, if_pos c0, if_pos c0]
    exact ⟨rfl, rfl⟩
  · have l0' : 0 ≤ l := by omega
    obtain ⟨⟨m1, m2, m3, m4, m5, _⟩, ⟨b1, _⟩, _⟩ := K.1 l l0' l1
    have P := C.2.2.2.2.1
    have q := C.2.2.2.1.2.2.2.1 (gt hr 75 0 l) m4 (by rw [← P.1]; exact m5)
    refine ⟨?_, ?_⟩
    · unfold F_X8_misuseOf F_X8_misuseOf_0
      rw [if_neg c0, if_pos l0', if_neg c0, b1]
      by_cases o : gt hr 80 0 l = 0
      · rw [if_neg (by simpa using o), if_pos o]
      · rw [if_pos o, if_neg o]
        by_cases f : fl = 0
        · rw [if_pos f, if_pos f]
        · rw [if_neg f, if_neg f]
          by_cases s : gt hc 4 l 4 = -1
          · rw [if_pos s, if_pos s]
          · rw [if_neg s, if_neg s]
    · unfold F_X8_partOf F_X8_partOf_0
      rw [if_neg c0, if_pos l0', m1, if_neg c0, if_pos (by omega), if_pos m4, q.2.1]
theorem r_over {k a t l : Int} {n : Nat} {hr : zH} (a2 : PIr hr) (l1 : l < n) (n160 : n ≤ 160) (l0 : -1 ≤ l) : F_X12_doSlot_13 0 t l hr = zb (F_X12_fail 0 3 t (if l = -1 then -1 else gt hr 75 0 l) hr) (fun _ h5 => some (0, h5)) := by
  unfold F_X12_doSlot_13
  by_cases c0 : l = -1
  · rw [if_neg (by omega), if_pos (by decide), if_pos c0]
  · rw [if_pos (by omega), if_pos (by decide), pr_35 a2, if_pos (by decide), if_pos ⟨by omega, by omega⟩, if_neg c0]
