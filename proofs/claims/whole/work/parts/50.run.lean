/-! a RUN under way, on both sides -/
def RQ (n : Nat) (S : Int) (sid : Int → Int) (b : Nat) (k a : Int) (hc hr : zH) : Prop :=
  (gt hc 8 0 3 = k ∧ gt hc 8 0 5 = b ∧ gt hc 8 0 7 = S ∧ gt hr 12 0 25 = b + k ∧ gt hr 12 0 33 = k ∧ gt hr 12 0 67 = a ∧ gt hr 12 0 60 = 0 ∧ k ≤ 10 ∧ 1 ≤ k ∧ gt hr 12 0 59 = -1) ∧
  (gt hc 8 0 14 = gt hr 12 0 55 ∧ 0 ≤ gt hc 8 0 14 ∧ gt hc 8 0 14 ≤ 160 ∧ (n : Int) ≤ gt hc 8 0 14 ∧ 0 ≤ gt hr 12 0 43 ∧ gt hr 12 0 43 ≤ gt hc 8 0 14 ∧ gt hc 8 0 16 = gt hr 12 0 58 ∧ 0 ≤ gt hc 8 0 16 ∧ gt hc 8 0 16 + b ≤ gt hc 8 0 14 + 1 ∧
  gt hr 12 0 44 = gt hc 8 0 15 + S ∧ 0 ≤ gt hc 8 0 15 ∧ gt hr 12 0 44 ≤ gt hc 8 0 14 + 1 ∧ ((1 ≤ S → sid S < gt hr 12 0 44) ∧ ∀ i : Int, 1 ≤ i → i ≤ S → 0 ≤ sid i))
/-- SLOTS -/
def SL (n : Nat) (k : Int) (hc hr : zH) : Prop := ∀ i s : Int, 1 ≤ i → i ≤ k → 0 ≤ s → s < 8 → gt hc 20 i s = gt hr 74 0 (8 * (i - 1) + s) ∧ -1 ≤ gt hc 20 i s ∧ gt hc 20 i s < n
def RB (B : Int) (n : Nat) (S c : Int) (sid : Int → Int) (b : Nat) (k a : Int) (cx : zK) (hc hr : zH) : Prop :=
  CR B n S c sid hc hr ∧ RF hc hr ∧ Stk hc hr sid b k S a cx ∧ SI S sid ∧ RQ n S sid b k a hc hr ∧ SL n k hc hr
/-- what is on its way -/
def WY (hc hr : zH) : Prop := gt hc 8 0 12 = gt hr 12 0 52 ∧ 0 ≤ gt hc 8 0 12 ∧ gt hc 8 0 12 ≤ 3 ∧ (gt hc 8 0 12 = 3 → gt hc 8 0 13 = gt hr 12 0 53 ∧ 0 ≤ gt hc 8 0 13 ∧ gt hc 8 0 13 < gt hc 2 0 6)
/-- where the ACT stands -/
def PO (k a : Int) (cx : zK) (hc hr : zH) : Prop := ∃ t m : Nat, gt hc 1 k 2 = t ∧ gt hr 72 0 a = t ∧ zS hc hr (gt hc 1 k 1) m ∧ t ≤ m ∧ zjs hc (gt hc 1 k 1) t = cx
def RU (B : Int) (n : Nat) (S c : Int) (sid : Int → Int) (b : Nat) (k a : Int) (cx : zK) (hc hr : zH) : Prop :=
  RB B n S c sid b k a cx hc hr ∧ WY hc hr ∧ (gt hc 8 0 12 = 0 → PO k a cx hc hr)
abbrev lRBc : List Nat := [6, 27, 28, 29, 30, 31, 32, 33, 34, 35, 36, 37, 38, 39, 40, 41, 42, 43, 44, 45, 46, 47, 48, 49, 100, 101, 102, 0, 20, 21, 22, 23, 24, 25, 26]
abbrev fRBc : List (Nat × Int) := [(1, 0), (1, 1), (1, 3), (3, 1), (3, 3), (3, 5), (5, 3), (5, 4), (7, 3), (8, 3), (8, 5), (8, 7), (8, 9), (8, 11), (8, 14), (8, 15), (8, 16), (4, 0), (4, 1), (4, 2), (4, 3), (4, 4), (4, 5), (4, 6), (4, 7), (9, 0), (9, 1), (9, 2), (11, 0), (11, 1), (11, 2), (11, 3), (10, 0), (10, 1), (10, 2), (10, 3), (10, 4), (10, 5), (10, 6), (10, 7), (10, 8), (10, 9), (2, 6)] ++ fPIc
abbrev lRBr : List Nat := [50, 51, 52, 53, 54, 55, 56, 57, 58, 59, 60, 61, 62, 63, 64, 65, 75, 76, 77, 78, 79, 80, 81, 82, 89, 90, 91, 92, 68, 69, 70, 71, 74, 83, 84, 85, 86, 87, 88]
abbrev fRBr : List (Nat × Int) := [(12, 0), (12, 4), (12, 6), (12, 12), (12, 16), (12, 34), (12, 43), (12, 56), (12, 61), (12, 62), (12, 25), (12, 33), (12, 67), (12, 60), (12, 44), (12, 45), (12, 55), (12, 58), (12, 59)] ++ fPIr
theorem zwk {l1 l2 : List Nat} {m1 m2 : List (Nat × Int)} {p : List Nat} {q : List (Nat × Int)} (d : zdj l1 m1 p q = true) (w1 : (l2.all fun x => l1.contains x) = true) (w2 : (m2.all fun x => m1.contains x || l1.contains x.1) = true) : zdj l2 m2 p q = true := by
  unfold zdj at d ⊢
  rw [Bool.and_eq_true] at d ⊢
  refine ⟨List.all_eq_true.mpr fun x hx => ?_, List.all_eq_true.mpr fun x hx => ?_⟩
  · have := List.all_eq_true.mp w1 x hx
    exact List.all_eq_true.mp d.1 x (by simpa using this)
  · have := List.all_eq_true.mp w2 x hx
    rw [Bool.or_eq_true] at this
    rcases this with z | z
    · exact List.all_eq_true.mp d.2 x (by simpa using z)
    · have y := List.all_eq_true.mp d.1 x.1 (by simpa using z)
      rw [Bool.and_eq_true] at y ⊢
      refine ⟨y.1, ?_⟩
      rw [Bool.not_eq_true']
      refine Bool.eq_false_iff.mpr fun w => ?_
      have := List.all_eq_true.mp y.2 x (by simpa using w)
      simp at this
theorem RQ.fr {n : Nat} {S : Int} {sid : Int → Int} {b : Nat} {k a : Int} {lc lr : List Nat} {mc mr : List (Nat × Int)} {hc hr hc' hr' : zH} (K : RQ n S sid b k a hc hr) (xc : zFx lc mc hc hc') (dc : zdj [] [(8, 3), (8, 5), (8, 7), (8, 14), (8, 15), (8, 16)] lc mc = true) (xr : zFx lr mr hr hr') (dr : zdj [] [(12, 25), (12, 33), (12, 67), (12, 60), (12, 59), (12, 55), (12, 43), (12, 58), (12, 44)] lr mr = true) : RQ n S sid b k a hc' hr' := by
  unfold RQ
  rw [zdf2 dc xc (c := 8) (j := 3) (by decide) 0, zdf2 dc xc (c := 8) (j := 5) (by decide) 0, zdf2 dc xc (c := 8) (j := 7) (by decide) 0, zdf2 dc xc (c := 8) (j := 14) (by decide) 0, zdf2 dc xc (c := 8) (j := 15) (by decide) 0, zdf2 dc xc (c := 8) (j := 16) (by decide) 0,
    zdf2 dr xr (c := 12) (j := 25) (by decide) 0, zdf2 dr xr (c := 12) (j := 33) (by decide) 0, zdf2 dr xr (c := 12) (j := 67) (by decide) 0, zdf2 dr xr (c := 12) (j := 60) (by decide) 0, zdf2 dr xr (c := 12) (j := 59) (by decide) 0, zdf2 dr xr (c := 12) (j := 55) (by decide) 0, zdf2 dr xr (c := 12) (j := 43) (by decide) 0, zdf2 dr xr (c := 12) (j := 58) (by decide) 0, zdf2 dr xr (c := 12) (j := 44) (by decide) 0]
  exact K
theorem SL.fr {n : Nat} {k : Int} {lc lr : List Nat} {mc mr : List (Nat × Int)} {hc hr hc' hr' : zH} (K : SL n k hc hr) (xc : zFx lc mc hc hc') (dc : zdj [20] [] lc mc = true) (xr : zFx lr mr hr hr') (dr : zdj [74] [] lr mr = true) : SL n k hc' hr' := by
  intro i s i1 i2 s0 s1
  rw [zdk dc xc (c := 20) rfl i s, zdk dr xr (c := 74) rfl 0 _]
  exact K i s i1 i2 s0 s1
theorem RB.fr {B : Int} {n : Nat} {S c : Int} {sid : Int → Int} {b : Nat} {k a : Int} {cx : zK} {lc lr : List Nat} {mc mr : List (Nat × Int)} {hc hr hc' hr' : zH} (X : RB B n S c sid b k a cx hc hr) (xc : zFx lc mc hc hc') (dc : zdj lRBc fRBc lc mc = true) (en : FrN hc hc') (x12 : ∀ i, i ≠ k → gt hc' 1 i 2 = gt hc 1 i 2)
    (xr : zFx lr mr hr hr') (dr : zdj lRBr fRBr lr mr = true) (x72 : ∀ j, j ≠ a → gt hr' 72 0 j = gt hr 72 0 j ∧ gt hr' 73 0 j = gt hr 73 0 j) : RB B n S c sid b k a cx hc' hr' := by
  obtain ⟨k1, k2, k3, k4, k5, k6⟩ := X
  have g43 : ∀ q : Nat, ([43, 44, 45] : List Nat).contains q = true → gt hc' q = gt hc q := fun q z => by funext i j; exact zdk (zwk (l2 := [43, 44, 45]) (m2 := []) dc rfl rfl) xc z i j
  refine ⟨k1.fr xc (zwk dc rfl rfl) en xr (zwk dr rfl rfl), k2.fr xc (zwk dc rfl rfl) xr (zwk dr rfl rfl), k3.cg (x := a) (g43 43 rfl) (g43 44 rfl) (g43 45 rfl) (zdf2 dc xc (by decide) 0) (by funext j; exact zdk dr xr (by decide) 0 j) (by rw [zdf2 dc xc (c := 2) (j := 6) (by decide) 0]; exact Int.le_refl _) (Or.inl rfl) (fun i _ _ j => zdk dc xc (by decide) i j) (fun i _ _ => ⟨zdf2 dc xc (by decide) i, zdf2 dc xc (by decide) i, fun w => x12 i (by omega)⟩) (fun i _ _ => ⟨zdf2 dc xc (by decide) i, zdf2 dc xc (by decide) i, rfl⟩) (fun j _ _ => ⟨zdk dr xr (by decide) 0 j, zdk dr xr (by decide) 0 j, zdk dr xr (by decide) 0 j, zdk dr xr (by decide) 0 j, x72 j⟩), k4, k5.fr xc (zwk dc rfl rfl) xr (zwk dr rfl rfl), k6.fr xc (zwk dc rfl rfl) xr (zwk dr rfl rfl)⟩
theorem WY.fr {lc lr : List Nat} {mc mr : List (Nat × Int)} {hc hr hc' hr' : zH} (K : WY hc hr) (xc : zFx lc mc hc hc') (dc : zdj [] [(8, 12), (8, 13)] lc mc = true) (sf : gt hc 2 0 6 ≤ gt hc' 2 0 6) (xr : zFx lr mr hr hr') (dr : zdj [] [(12, 52), (12, 53)] lr mr = true) : WY hc' hr' := by
  obtain ⟨k1, k2, k3, k4⟩ := K
  unfold WY
  rw [zdf2 dc xc (c := 8) (j := 12) (by decide) 0, zdf2 dc xc (c := 8) (j := 13) (by decide) 0, zdf2 dr xr (c := 12) (j := 52) (by decide) 0, zdf2 dr xr (c := 12) (j := 53) (by decide) 0]
  exact ⟨k1, k2, k3, fun z => ⟨(k4 z).1, (k4 z).2.1, by have := (k4 z).2.2; omega⟩⟩
/-- what SPENT needs -/
def SP (B c : Int) (hc hr : zH) : Prop := ∃ (n : Nat) (S : Int) (sid : Int → Int) (p : Nat), CR B n S c sid hc hr ∧ SI S sid ∧ SK hr sid p S ∧ RF hc hr ∧ gt hc 8 0 7 = S ∧ gt hr 12 0 25 = p ∧ p ≤ 150 ∧ 0 ≤ S ∧ S ≤ 90 ∧ gt hc 8 0 14 = gt hr 12 0 55 ∧ gt hc 8 0 16 = gt hr 12 0 58 ∧ gt hr 12 0 44 = gt hc 8 0 15 + S ∧ 0 ≤ gt hc 8 0 15 ∧ gt hc 8 0 15 ≤ 1000 ∧ gt hr 12 0 59 = -1
theorem RB.sp {B : Int} {n : Nat} {S c : Int} {sid : Int → Int} {b : Nat} {k a : Int} {cx : zK} {hc hr : zH} (X : RB B n S c sid b k a cx hc hr) : SP B c hc hr := by
  obtain ⟨k1, k2, k3, k4, ⟨⟨q1, q2, q3, q4, q5, q6, q7, q8, q9, q10⟩, ⟨r1, r2, r3, r4, r5, r6, r7, r8, r9, r10, r11, r12, r13⟩⟩, k6⟩ := X
  obtain ⟨b1, b2, b3, b4, b5, b6, b7, b8⟩ := k3.bd
  have b9 := (b8 q9).2.1
  obtain ⟨p, hp⟩ : ∃ p : Nat, (p : Int) = b + k := ⟨(b + k).toNat, by omega⟩
  exact ⟨n, S, sid, p, k1, k4, k3.sk p hp, k2, q3, by omega, by omega, b2, by omega, r1, r7, r10, r11, by omega, q10⟩
theorem SP.go {B c : Int} {hc hr : zH} (X : SP B c hc hr) : ∃ hc' hr' n sid, F_X8_spend 0 hc = some (0, hc') ∧ F_X12_spend 0 hr = some (0, hr') ∧ CR B n 0 c sid hc' hr' ∧ RF hc' hr' ∧ gt hr' 12 0 60 = 1 ∧ gt hr' 12 0 54 = 2 ∧ gt hr' 12 0 59 = -1 ∧ gt hc' 8 0 14 = gt hr' 12 0 55 ∧ gt hc' 8 0 16 = gt hr' 12 0 58 ∧ gt hr' 12 0 44 = gt hc' 8 0 15 := by
  obtain ⟨n, S, sid, p, k1, k2, k3, k4, q1, q2, q3, q4, q5, q6, q7, q8, q9, q10, q11⟩ := X
  have hz := zF_i
  obtain ⟨hr0, h0⟩ : ∃ hr0, hr0 = pt (pt hr 12 0 54 2) 12 0 60 1 := ⟨_, rfl⟩
  have x0 : zFx [] [(12, 54), (12, 60)] hr hr0 := by rw [h0]; exact ((zFx.rf hr).p2 rfl).p2 rfl
  have v0 : gt hr0 12 0 60 = 1 ∧ gt hr0 12 0 54 = 2 := by rw [h0]; exact ⟨rfl, rfl⟩
  have rp : -1000000 ≤ (p : Int) - 1 ∧ (p : Int) - 1 ≤ 1000000 := by omega
  obtain ⟨hc', hr', t1, t2, t3, t4, t5, t6, t7, t8⟩ := m_sp2 (B := B) (n := n) (c := c) (sid := sid) p S zF zF hc hr0 q3 q4 q5 (k1.fr (zFx.rf (l := []) (m := []) hc) rfl (frrN hc) x0 rfl) k2 (k3.cg fun j _ _ => ⟨x0 68 j (by simp) (by simp) 0, x0 70 j (by simp) (by simp) 0⟩) q1 (by omega) (by omega) q9 (by omega)
  have xr : zFx kGr (mGr ++ [(12, 25), (12, 54), (12, 60)]) hr hr' := (x0.wk rfl rfl).tr (t5.wk rfl rfl)
  refine ⟨hc', hr', n, sid, t1, ?_, t7, k4.fr t3 rfl xr rfl, ?_, ?_, ?_, ?_, ?_, ?_⟩
  · unfold F_X12_spend F_X12_spend_0
    rw [if_pos (by decide), ← h0, x0 12 25 (by simp) (by decide) 0, q2, wI_s rp]
    exact t2
  · rw [t5 12 60 (by decide) (by decide) 0]; exact v0.1
  · rw [t5 12 54 (by decide) (by decide) 0]; exact v0.2
  · rw [xr 12 59 (by decide) (by decide) 0]; exact q11
  · rw [xr 12 55 (by decide) (by decide) 0, t3 8 14 (by decide) (by decide) 0]; exact q6
  · rw [xr 12 58 (by decide) (by decide) 0, t3 8 16 (by decide) (by decide) 0]; exact q7
  · rw [xr 12 44 (by decide) (by decide) 0, t8]; exact q8
theorem SP.fr {B c : Int} {lc lr : List Nat} {mc mr : List (Nat × Int)} {hc hr hc' hr' : zH} (X : SP B c hc hr) (xc : zFx lc mc hc hc') (dc : zdj [6, 27, 28, 29, 30, 31, 32, 33, 34, 35, 36, 37, 38, 39, 40, 41, 42, 43, 44, 45, 46, 47, 48, 49, 100, 101, 102, 21, 22, 23, 24, 25, 26] ([(1, 3), (3, 1), (3, 3), (3, 5), (5, 3), (5, 4), (7, 3), (8, 7), (8, 9), (8, 11), (8, 14), (8, 15), (8, 16), (4, 0), (4, 1), (4, 2), (4, 3), (4, 4), (4, 5), (4, 6), (4, 7), (9, 2), (11, 0), (11, 1), (11, 2), (11, 3), (10, 0), (10, 1), (10, 2), (10, 3), (10, 4), (10, 5), (10, 6), (10, 7), (10, 8), (10, 9), (2, 6)] ++ fPIc) lc mc = true) (en : FrN hc hc')
    (xr : zFx lr mr hr hr') (dr : zdj [50, 51, 52, 53, 54, 55, 56, 57, 58, 59, 60, 61, 62, 63, 64, 65, 75, 76, 77, 78, 79, 80, 81, 82, 89, 90, 91, 92, 83, 84, 85, 86, 87, 88] ([(12, 0), (12, 4), (12, 6), (12, 12), (12, 16), (12, 34), (12, 43), (12, 56), (12, 61), (12, 62), (12, 25), (12, 44), (12, 45), (12, 55), (12, 58), (12, 59)] ++ fPIr) lr mr = true)
    (er : ∀ j : Int, 0 ≤ j → j < gt hr 12 0 25 → gt hr' 68 0 j = gt hr 68 0 j ∧ (gt hr 68 0 j = 12 → gt hr' 70 0 j = gt hr 70 0 j)) : SP B c hc' hr' := by
  obtain ⟨n, S, sid, p, k1, k2, k3, k4, q1, q2, q3, q4, q5, q6, q7, q8, q9, q10, q11⟩ := X
  have kk : ∀ (p : Nat) (S : Int), (p : Int) ≤ gt hr 12 0 25 → SK hr sid p S → SK hr' sid p S := fun p => by
    induction p with
    | zero => intro S _ z; exact z
    | succ p ih =>
      intro S hp z
      have e := er p (Int.natCast_nonneg p) (by omega)
      rcases z with ⟨z1, z2, z3, z4⟩ | ⟨z1, z2⟩
      · exact Or.inl ⟨by rw [e.1]; exact z1, by rw [e.2 z1]; exact z2, z3, ih _ (by omega) z4⟩
      · exact Or.inr ⟨by rw [e.1]; exact z1, ih _ (by omega) z2⟩
  refine ⟨n, S, sid, p, k1.fr xc (zwk dc rfl rfl) en xr (zwk dr rfl rfl), k2, kk p S (by omega) k3, k4.fr xc (zwk dc rfl rfl) xr (zwk dr rfl rfl), ?_⟩
  rw [zdf2 dc xc (c := 8) (j := 7) (by decide) 0, zdf2 dc xc (c := 8) (j := 14) (by decide) 0, zdf2 dc xc (c := 8) (j := 15) (by decide) 0, zdf2 dc xc (c := 8) (j := 16) (by decide) 0, zdf2 dr xr (c := 12) (j := 25) (by decide) 0, zdf2 dr xr (c := 12) (j := 55) (by decide) 0, zdf2 dr xr (c := 12) (j := 58) (by decide) 0, zdf2 dr xr (c := 12) (j := 44) (by decide) 0, zdf2 dr xr (c := 12) (j := 59) (by decide) 0]
  exact ⟨q1, q2, q3, q4, q5, q6, q7, q8, q9, q10, q11⟩
/-- the RUN is SPENT: the class does it at last, the reference has done it -/
def OV (B c : Int) (hc hr : zH) : Prop := gt hc 8 0 12 = 4 ∧ 1 ≤ gt hc 8 0 3 ∧ ∃ hr1, SP B c hc hr1 ∧ F_X12_spend 0 hr1 = some (0, hr)
abbrev kEc : List Nat := kGc ++ [21, 22, 23, 24, 25, 26]
abbrev mEc : List (Nat × Int) := mGc ++ [(2, 6), (8, 12), (8, 13)]
abbrev kEr : List Nat := kGr ++ [83, 84, 85, 86, 87, 88]
abbrev mEr : List (Nat × Int) := mGr ++ [(12, 45), (12, 52), (12, 53)]
theorem e63 {h : zH} (w : gt h 8 0 12 = 4) : F_X8_endInnermost_63 0 h = some (0, h) := by
  unfold F_X8_endInnermost_63
  rw [if_pos (by decide), if_pos w]
/-- THE INNERMOST gives back what it has -/
theorem m_es1 {B : Int} {n : Nat} {S c ac ln : Int} {sid : Int → Int} (s1 : 1 ≤ S) (I : SI S sid) {hc0 hr0 : zH} (HS : ∀ hc1 hr1, CR B n S c sid hc1 hr1 → RF hc1 hr1 → zFx kEc mEc hc0 hc1 → FrN hc0 hc1 → zFx kEr mEr hr0 hr1 → FrN hr0 hr1 → ∃ hr2, F_X12_spend 0 hr1 = some (0, hr2) ∧ gt hr2 12 0 60 = 1)
    (s0 : gt hc0 9 S 0 = ac ∧ gt hc0 9 S 1 = ln) (aa : 0 ≤ gt hr0 12 0 67 ∧ gt hr0 12 0 67 < 150) (ea : gt hr0 70 0 (gt hr0 12 0 67) = ac) (pb : 0 ≤ gt hr0 12 0 25 - 1 ∧ gt hr0 12 0 25 - 1 < 150) (el : gt hr0 69 0 (gt hr0 12 0 25 - 1) = ln) (o0 : gt hr0 12 0 60 = 0) :
    ∀ (z : Nat) (fc fr : Nat) (i : Int) (hc hr : zH), CR B n S c sid hc hr → RF hc hr → WY hc hr → zFx kEc mEc hc0 hc → FrN hc0 hc → zFx kEr mEr hr0 hr → FrN hr0 hr → zSum (gt hr 80 0) n ≤ z → z + 1 < fc → z + 1 < fr → 0 ≤ i → i + z ≤ 160 →
    ∃ hc' hr', zFx kEc mEc hc0 hc' ∧ FrN hc0 hc' ∧ ((F_X8_endInnermost_12 fc 0 S i hc = F_X8_endInnermost_63 0 hc' ∧ F_X12_endScope_28 fr 0 (sid S) (gt hc 9 S 2) hr = F_X12_endScope_139 0 hr' ∧ zFx kEr mEr hr0 hr' ∧ FrN hr0 hr' ∧ CR B n S c sid hc' hr' ∧ RF hc' hr' ∧ WY hc' hr' ∧ gt hc' 9 S 2 = -1 ∧ (gt hc' 8 0 12 = gt hc 8 0 12 ∨ gt hc' 8 0 12 = 3) ∧ gt hc 2 0 6 ≤ gt hc' 2 0 6) ∨
      (F_X8_endInnermost_12 fc 0 S i hc = some (0, hc') ∧ F_X12_endScope_28 fr 0 (sid S) (gt hc 9 S 2) hr = some (0, hr') ∧ gt hc' 8 0 12 = 4 ∧ ∃ hr1, zFx kEr mEr hr0 hr1 ∧ FrN hr0 hr1 ∧ CR B n S c sid hc' hr1 ∧ RF hc' hr1 ∧ F_X12_spend 0 hr1 = some (0, hr')))
  | z, 0, fr, i, hc, hr, _, _, _, _, _, _, _, _, h, _, _, _ => by omega
  | z, fc + 1, 0, i, hc, hr, _, _, _, _, _, _, _, _, _, h, _, _ => by omega
  | z, fc + 1, fr + 1, i, hc, hr, X, RFx, W, x1, n1, x2, n2, hz, hf1, hf2, i0, i1 => by
    have X' := X
    obtain ⟨a1, a2, a3, a4, a5, a6, a7, a8, a9, a10, ⟨b1, b2, b3, b4, b5, b6, b7, b8, b9, b10⟩, K, U, H, L, T⟩ := X'
    have st : F_X8_endInnermost_12 (fc + 1) 0 S i hc = F_X8_endInnermost_12b (F_X8_endInnermost_12 fc) 0 S i hc := rfl
    have st2 : F_X12_endScope_28 (fr + 1) 0 (sid S) (gt hc 9 S 2) hr = F_X12_endScope_28b (F_X12_endScope_28 fr) 0 (sid S) (gt hc 9 S 2) hr := rfl
    have o60 : gt hr 12 0 60 = 0 := (x2 12 60 (by decide) (by decide) 0).trans o0
    obtain ⟨w1, w2, w3, w4⟩ := W
    have w4n : ¬ gt hc 8 0 12 = 4 := by omega
    rw [st, st2]
    by_cases e : gt hc 9 S 2 = -1
    · refine ⟨hc, hr, x1, n1, Or.inl ⟨?_, ?_, x2, n2, X, RFx, ⟨w1, w2, w3, w4⟩, e, Or.inl rfl, Int.le_refl _⟩⟩
      · unfold F_X8_endInnermost_12b
        rw [if_pos (show 0 ≤ S by omega), if_pos e]
        split <;> rfl
      · unfold F_X12_endScope_28b
        rw [if_pos (by omega)]
    · obtain ⟨l, hl⟩ : ∃ l, l = gt hc 9 S 2 := ⟨_, rfl⟩
      have I1 : zIn n (gt hr 80 0) (gt hr 76 0) (fL hc 5) S l := by
        rcases K.2.2.2 S s1 (Int.le_refl S) with ⟨w, _⟩ | ⟨w, _⟩
        · exact absurd w e
        · rw [hl]; exact w
      obtain ⟨⟨l0, l1, op, so⟩, sc⟩ := I1
      have l0 : 0 ≤ l := l0
      obtain ⟨r, hc1, hr1, g1, g2, g3, g4, g5, g6, g7, g8, g9, g10⟩ := m_gv (how := 1) X l0 l1 op
      have z1 := (zSum_op g8.2.2.2.2.2.2.2.2.2.2.2.1).1
      obtain ⟨z', rfl⟩ : ∃ z', z = z' + 1 := ⟨z - 1, by omega⟩
      have ri : -1000000 ≤ i + 1 ∧ i + 1 ≤ 1000000 := by omega
      have c1 := g8.1
      have c2 := g8.2.1
      have c4 := g8.2.2.2.1
      have K1 : LN n S (-1) sid hc1 hr1 := g8.2.2.2.2.2.2.2.2.2.2.2.1
      obtain ⟨d1, d2, _⟩ := g8.2.2.2.2.2.2.2.2.2.2.1
      have ha := (K1.1 l l0 l1).1
      have P1 := g8.2.2.2.2.1
      have pl : F_X8_partOf l hc1 = some (gt hr1 75 0 l, hc1) := by
        obtain ⟨m1, m2, m3, m4, m5, _⟩ := ha
        have q := c4.2.2.2.1 (gt hr1 75 0 l) m4 (by rw [← P1.1]; exact m5)
        unfold F_X8_partOf F_X8_partOf_0
        rw [if_neg (by omega), if_pos l0, m1, if_pos (by omega), if_pos m4, q.2.1]
      have e1 : F_X8_endInnermost_12b (F_X8_endInnermost_12 fc) 0 S i hc = if r = 0 then F_X8_endInnermost_12 fc 0 S (i + 1) hc1 else zb (F_X8_failAtEnd 0 S (gt hr1 75 0 l) hc1) (fun r9 h9 => F_X8_endInnermost_12 fc 0 S (i + 1) h9) := by
        unfold F_X8_endInnermost_12b
        rw [if_neg (by omega), if_pos (show 0 ≤ S by omega), if_neg e, if_pos (by decide), if_neg w4n, ← hl, g1]
        simp only [zb, wI_s ri, pl]
      have x1' : zFx kEc mEc hc0 hc1 := x1.tr (g4.wk rfl rfl)
      have n1' : FrN hc0 hc1 := n1.tr g5
      have x2' : zFx kEr mEr hr0 hr1 := x2.tr (g6.wk rfl rfl)
      have n2' : FrN hr0 hr1 := n2.tr g7
      have RF1 : RF hc1 hr1 := RFx.fr g4 rfl g6 rfl
      have f6 : gt hc1 2 0 6 = gt hc 2 0 6 := g4 2 6 (by decide) (by decide) 0
      have y12 : gt hc1 8 0 12 = gt hc 8 0 12 ∧ gt hc1 8 0 13 = gt hc 8 0 13 := ⟨g4 8 12 (by decide) (by decide) 0, g4 8 13 (by decide) (by decide) 0⟩
      have y52 : gt hr1 12 0 52 = gt hr 12 0 52 ∧ gt hr1 12 0 53 = gt hr 12 0 53 := ⟨g6 12 52 (by decide) (by decide) 0, g6 12 53 (by decide) (by decide) 0⟩
      have W1 : WY hc1 hr1 := ⟨by rw [y12.1, y52.1]; exact w1, by rw [y12.1]; exact w2, by rw [y12.1]; exact w3, by rw [y12.1, y12.2, y52.2, f6]; exact w4⟩
      have o61 : gt hr1 12 0 60 = 0 := (x2' 12 60 (by decide) (by decide) 0).trans o0
      have nx : ∀ (hc2 hr2 : zH), CR B n S c sid hc2 hr2 → zFx kEr mEr hr0 hr2 → F_X12_endScope_119 (F_X12_endScope_28 fr) 0 (sid S) hr2 = F_X12_endScope_28 fr 0 (sid S) (gt hc2 9 S 2) hr2 := fun hc2 hr2 X2 x => by
        unfold F_X12_endScope_119
        rw [if_pos (by decide), (x 12 60 (by decide) (by decide) 0).trans o0, if_pos rfl, m_last b4 X2.2.2.2.2.2.2.2.2.2.2.2.1 I X2.2.1 X2.2.2.2.2.2.2.2.2.2.2.1.2.1 s1 (Int.le_refl S)]
        rfl
      have e2 : F_X12_endScope_28b (F_X12_endScope_28 fr) 0 (sid S) l hr = if r = 0 then F_X12_endScope_28 fr 0 (sid S) (gt hc1 9 S 2) hr1 else if gt hr1 12 0 45 ≠ 16 then zb (F_X12_newFailure 0 6 ln (gt hr1 75 0 l) hr1) (fun r11 h11 => if gt h11 12 0 52 ≠ 3 then (F_X12_endScope_119 (F_X12_endScope_28 fr) 0 (sid S) (pt (pt h11 12 0 52 3) 12 0 53 r11)) else (if 0 ≤ gt h11 12 0 51 then (if 0 ≤ r11 ∧ r11 < 16 then (F_X12_endScope_119 (F_X12_endScope_28 fr) 0 (sid S) (pt h11 88 (gt h11 12 0 51) r11 (gt h11 12 0 53))) else none) else none)) else zb (F_X12_spend 0 hr1) (fun r15 h15 => F_X12_endScope_119 (F_X12_endScope_28 fr) 0 (sid S) h15) := by
        have q25 : gt hr1 12 0 25 = gt hr0 12 0 25 := x2' 12 25 (by decide) (by decide) 0
        have rp : -1000000 ≤ gt hr0 12 0 25 - 1 ∧ gt hr0 12 0 25 - 1 ≤ 1000000 := by omega
        unfold F_X12_endScope_28b
        rw [if_neg (by omega), if_pos (by decide), if_neg (by simpa using o60), g2]
        simp only [zb]
        rw [nx hc1 hr1 g8 x2', pr_27 c2, q25, wI_s rp, pr_35 c2, x2' 69 _ (by decide) (by simp) 0, el]
        by_cases r0 : r = 0
        · rw [if_pos r0, if_pos r0]
        · rw [if_neg r0, if_neg r0]
          by_cases q16 : gt hr1 12 0 45 = 16
          · rw [if_neg (by simpa using q16), if_neg (by simpa using q16)]
          · rw [if_pos q16, if_pos q16, if_pos (by decide), if_pos pb, if_pos (by decide), if_pos ⟨l0, by omega⟩]
      rw [e1, ← hl, e2]
      rcases g3 with r0 | r1
      · rw [if_pos r0, if_pos r0]
        obtain ⟨hc', hr', t1, t2, t3⟩ := m_es1 s1 I HS s0 aa ea pb el o0 z' fc fr (i + 1) hc1 hr1 g8 RF1 W1 x1' n1' x2' n2' (by omega) (by omega) (by omega) (by omega) (by omega)
        rw [y12.1, f6] at t3
        exact ⟨hc', hr', t1, t2, t3⟩
      · have rn : ¬ r = 0 := by omega
        rw [if_neg rn, if_neg rn]
        have s9 : gt hc1 9 S 0 = ac ∧ gt hc1 9 S 1 = ln := ⟨(x1' 9 0 (by decide) (by decide) S).trans s0.1, (x1' 9 1 (by decide) (by decide) S).trans s0.2⟩
        by_cases q16 : gt hc1 2 0 6 = 16
        · -- SPENT
          obtain ⟨hr2, u1, u2⟩ := HS hc1 hr1 g8 RF1 x1' n1' x2' n2'
          obtain ⟨fr', rfl⟩ : ∃ fr', fr = fr' + 1 := ⟨fr - 1, by omega⟩
          obtain ⟨fc', rfl⟩ : ∃ fc', fc = fc' + 1 := ⟨fc - 1, by omega⟩
          obtain ⟨hc2, h2⟩ : ∃ hc2, hc2 = pt hc1 8 0 12 4 := ⟨_, rfl⟩
          have x3 : zFx [] [(8, 12)] hc1 hc2 := by rw [h2]; exact (zFx.rf hc1).p2 rfl
          have n3 : FrN hc1 hc2 := by rw [h2]; exact frpN (frrN hc1)
          have v12 : gt hc2 8 0 12 = 4 := by rw [h2]; rfl
          have v9 : gt hc2 9 S 2 = gt hc1 9 S 2 := x3 9 2 (by simp) (by decide) S
          refine ⟨hc2, hr2, x1'.tr (x3.wk rfl rfl), n1'.tr n3, Or.inr ⟨?_, ?_, v12, hr1, x2', n2', g8.fr x3 rfl n3 (zFx.rf (l := []) (m := []) hr1) rfl, RF1.fr x3 rfl (zFx.rf (l := []) (m := []) hr1) rfl, u1⟩⟩
          · have q : F_X8_failAtEnd 0 S (gt hr1 75 0 l) hc1 = some (0, hc2) := by
              unfold F_X8_failAtEnd F_X8_failAtEnd_0
              rw [if_pos (by decide), if_pos (show 0 ≤ S by omega), pc_8_10 c1, if_pos (by decide), c_add_full q16]
              simp only [zb]
              rw [if_neg (by decide), h2]
            rw [q]
            simp only [zb]
            show F_X8_endInnermost_12b (F_X8_endInnermost_12 fc') 0 S (i + 1) hc2 = _
            unfold F_X8_endInnermost_12b
            by_cases q1 : 160 ≤ i + 1
            · rw [if_pos q1, e63 v12]
            · rw [if_neg q1, if_pos (show 0 ≤ S by omega)]
              by_cases q2 : gt hc2 9 S 2 = -1
              · rw [if_pos q2, e63 v12]
              · rw [if_neg q2, if_pos (by decide), if_pos v12, e63 v12]
          · rw [if_neg (by rw [← RF1.1]; simpa using q16), u1]
            simp only [zb]
            unfold F_X12_endScope_119
            rw [if_pos (by decide), u2, if_neg (by decide)]
            show F_X12_endScope_28b (F_X12_endScope_28 fr') 0 (sid S) (-1) hr2 = _
            unfold F_X12_endScope_28b F_X12_endScope_139
            rw [if_pos (by decide), if_pos (by decide), u2, if_pos (by decide)]
        · have f16 : gt hc1 2 0 6 < 16 := by have := RF1.2.2.1; omega
          have aa1 : gt hr1 12 0 67 = gt hr0 12 0 67 := x2' 12 67 (by decide) (by decide) 0
          have ea1 : gt hr1 70 0 (gt hr1 12 0 67) = ac := by rw [aa1, x2' 70 _ (by decide) (by simp) 0]; exact ea
          obtain ⟨hc2, hr2, v1, v2, v3, v4, v5, v6, v7, v8⟩ := m_add (kd := 6) (a := ac) (ln := ln) (p := gt hr1 75 0 l) c1 c2 RF1 f16 (by rw [aa1]; exact aa) ea1 (by decide) (by decide)
          have d1' : PIc hc2 := c1.fr v3 rfl
          have d2' : PIr hr2 := c2.fr v5 rfl
          have y12' : gt hc2 8 0 12 = gt hc 8 0 12 ∧ gt hc2 8 0 13 = gt hc 8 0 13 := ⟨(v3 8 12 (by decide) (by decide) 0).trans y12.1, (v3 8 13 (by decide) (by decide) 0).trans y12.2⟩
          have y52' : gt hr2 12 0 52 = gt hr 12 0 52 ∧ gt hr2 12 0 53 = gt hr 12 0 53 := ⟨(v5 12 52 (by decide) (by decide) 0).trans y52.1, (v5 12 53 (by decide) (by decide) 0).trans y52.2⟩
          have f0 := RF1.2.1
          have fb : 0 ≤ gt hc1 2 0 6 ∧ gt hc1 2 0 6 < 16 := ⟨f0, f16⟩
          have fin : ∀ (hc3 hr3 : zH), zFx [26] [(8, 12), (8, 13)] hc2 hc3 → FrN hc2 hc3 → zFx [88] [(12, 52), (12, 53)] hr2 hr3 → FrN hr2 hr3 → RF hc3 hr3 → WY hc3 hr3 → (gt hc3 8 0 12 = 3) → F_X8_failAtEnd 0 S (gt hr1 75 0 l) hc1 = some (0, hc3) →
              (zb (F_X12_newFailure 0 6 ln (gt hr1 75 0 l) hr1) (fun r11 h11 => if gt h11 12 0 52 ≠ 3 then (F_X12_endScope_119 (F_X12_endScope_28 fr) 0 (sid S) (pt (pt h11 12 0 52 3) 12 0 53 r11)) else (if 0 ≤ gt h11 12 0 51 then (if 0 ≤ r11 ∧ r11 < 16 then (F_X12_endScope_119 (F_X12_endScope_28 fr) 0 (sid S) (pt h11 88 (gt h11 12 0 51) r11 (gt h11 12 0 53))) else none) else none))) = F_X12_endScope_119 (F_X12_endScope_28 fr) 0 (sid S) hr3 →
              ∃ hc' hr', zFx kEc mEc hc0 hc' ∧ FrN hc0 hc' ∧ (((zb (F_X8_failAtEnd 0 S (gt hr1 75 0 l) hc1) fun r9 h9 => F_X8_endInnermost_12 fc 0 S (i + 1) h9) = F_X8_endInnermost_63 0 hc' ∧ (if gt hr1 12 0 45 ≠ 16 then zb (F_X12_newFailure 0 6 ln (gt hr1 75 0 l) hr1) (fun r11 h11 => if gt h11 12 0 52 ≠ 3 then (F_X12_endScope_119 (F_X12_endScope_28 fr) 0 (sid S) (pt (pt h11 12 0 52 3) 12 0 53 r11)) else (if 0 ≤ gt h11 12 0 51 then (if 0 ≤ r11 ∧ r11 < 16 then (F_X12_endScope_119 (F_X12_endScope_28 fr) 0 (sid S) (pt h11 88 (gt h11 12 0 51) r11 (gt h11 12 0 53))) else none) else none)) else zb (F_X12_spend 0 hr1) (fun r15 h15 => F_X12_endScope_119 (F_X12_endScope_28 fr) 0 (sid S) h15)) = F_X12_endScope_139 0 hr' ∧ zFx kEr mEr hr0 hr' ∧ FrN hr0 hr' ∧ CR B n S c sid hc' hr' ∧ RF hc' hr' ∧ WY hc' hr' ∧ gt hc' 9 S 2 = -1 ∧ (gt hc' 8 0 12 = gt hc 8 0 12 ∨ gt hc' 8 0 12 = 3) ∧ gt hc 2 0 6 ≤ gt hc' 2 0 6) ∨
                ((zb (F_X8_failAtEnd 0 S (gt hr1 75 0 l) hc1) fun r9 h9 => F_X8_endInnermost_12 fc 0 S (i + 1) h9) = some (0, hc') ∧ (if gt hr1 12 0 45 ≠ 16 then zb (F_X12_newFailure 0 6 ln (gt hr1 75 0 l) hr1) (fun r11 h11 => if gt h11 12 0 52 ≠ 3 then (F_X12_endScope_119 (F_X12_endScope_28 fr) 0 (sid S) (pt (pt h11 12 0 52 3) 12 0 53 r11)) else (if 0 ≤ gt h11 12 0 51 then (if 0 ≤ r11 ∧ r11 < 16 then (F_X12_endScope_119 (F_X12_endScope_28 fr) 0 (sid S) (pt h11 88 (gt h11 12 0 51) r11 (gt h11 12 0 53))) else none) else none)) else zb (F_X12_spend 0 hr1) (fun r15 h15 => F_X12_endScope_119 (F_X12_endScope_28 fr) 0 (sid S) h15)) = some (0, hr') ∧ gt hc' 8 0 12 = 4 ∧ ∃ hr1, zFx kEr mEr hr0 hr1 ∧ FrN hr0 hr1 ∧ CR B n S c sid hc' hr1 ∧ RF hc' hr1 ∧ F_X12_spend 0 hr1 = some (0, hr'))) := fun hc3 hr3 p1 p2 p3 p4 p5 p6 p7 p8 p9 => by
            have xx : zFx kEc mEc hc0 hc3 := (x1'.tr (v3.wk rfl rfl)).tr (p1.wk rfl rfl)
            have yy : zFx kEr mEr hr0 hr3 := (x2'.tr (v5.wk rfl rfl)).tr (p3.wk rfl rfl)
            have X3 : CR B n S c sid hc3 hr3 := (g8.fr v3 rfl v4 v5 rfl).fr p1 rfl p2 p3 rfl
            have e80 : gt hr3 80 0 = gt hr1 80 0 := by funext j; exact (p3 80 j (by decide) (by simp) 0).trans (v5 80 j (by decide) (by simp) 0)
            obtain ⟨hc', hr', t1, t2, t3⟩ := m_es1 s1 I HS s0 aa ea pb el o0 z' fc fr (i + 1) hc3 hr3 X3 p5 p6 xx ((n1'.tr v4).tr p2) yy ((n2'.tr v6).tr p4) (by rw [e80]; omega) (by omega) (by omega) (by omega) (by omega)
            rw [p8, if_pos (by rw [← RF1.1]; simpa using q16), p9, nx hc3 hr3 X3 yy]
            simp only [zb]
            refine ⟨hc', hr', t1, t2, ?_⟩
            rcases t3 with ⟨t3, t4, t5, t6, t7, t8, t9, t10, t11, t12⟩ | t3
            · exact Or.inl ⟨t3, t4, t5, t6, t7, t8, t9, t10, Or.inr (by rcases t11 with w | w; exact w.trans p7; exact w), by rw [p1 2 6 (by simp) (by decide) 0, v8, f6] at t12; omega⟩
            · exact Or.inr t3
          by_cases w33 : gt hc 8 0 12 = 3
          · have ww := w4 w33
            obtain ⟨hc3, h3⟩ : ∃ hc3, hc3 = pt hc2 26 0 (gt hc1 2 0 6) (gt hc 8 0 13) := ⟨_, rfl⟩
            obtain ⟨hr3, k3⟩ : ∃ hr3, hr3 = pt hr2 88 0 (gt hc1 2 0 6) (gt hr 12 0 53) := ⟨_, rfl⟩
            refine fin hc3 hr3 (by rw [h3]; exact (zFx.rf hc2).p1 rfl) (by rw [h3]; exact frpN (frrN hc2)) (by rw [k3]; exact (zFx.rf hr2).p1 rfl) (by rw [k3]; exact frpN (frrN hr2)) ?_ ?_ (by rw [h3]; exact y12'.1.trans w33) ?_ ?_
            · obtain ⟨o1, o2, o3, o4⟩ := v7
              rw [h3, k3]
              refine ⟨o1, o2, o3, fun j j0 j1 => ?_⟩
              obtain ⟨o5, o6, o7, o8, o9, o10, o11⟩ := o4 j j0 j1
              refine ⟨o5, o6, o7, o8, o9, ?_, o11⟩
              by_cases y : j = gt hc1 2 0 6
              · simp [gt_pt, y, ww.1]
              · simp [gt_pt, y, o10]
            · rw [h3, k3]
              refine ⟨?_, ?_, ?_, fun _ => ?_⟩
              · show gt hc2 8 0 12 = gt hr2 12 0 52
                rw [y12'.1, y52'.1]; exact w1
              · show 0 ≤ gt hc2 8 0 12
                rw [y12'.1]; exact w2
              · show gt hc2 8 0 12 ≤ 3
                rw [y12'.1]; exact w3
              · show gt hc2 8 0 13 = gt hr2 12 0 53 ∧ 0 ≤ gt hc2 8 0 13 ∧ gt hc2 8 0 13 < gt hc2 2 0 6
                rw [y12'.2, y52'.2, v8]
                exact ⟨ww.1, ww.2.1, by omega⟩
            · unfold F_X8_failAtEnd F_X8_failAtEnd_0
              rw [if_pos (by decide), if_pos (show 0 ≤ S by omega), pc_8_10 c1, if_pos (by decide), s9.1, s9.2, v1]
              have f7 : 0 ≤ gt hc1 2 0 6 ∧ gt hc1 2 0 6 < gt hc2 2 0 6 := by omega
              simp only [zb]
              rw [if_pos (by omega), y12'.1, if_neg (by omega), pc_8_10 d1', if_pos (by decide), y12'.2]
              unfold F_X2_suppress F_X2_suppress_0
              rw [if_pos (by decide), s_within, if_pos f7]
              simp only [zb]
              rw [if_neg (by decide), pc_2_5 d1', if_pos (by decide), if_pos fb, h3]
            · rw [v2]
              simp only [zb]
              rw [y52'.1, ← w1, if_neg (by omega), pr_51 d2', if_pos (by decide), if_pos fb, y52'.2, k3]
          · obtain ⟨hc3, h3⟩ : ∃ hc3, hc3 = pt (pt hc2 8 0 12 3) 8 0 13 (gt hc1 2 0 6) := ⟨_, rfl⟩
            obtain ⟨hr3, k3⟩ : ∃ hr3, hr3 = pt (pt hr2 12 0 52 3) 12 0 53 (gt hc1 2 0 6) := ⟨_, rfl⟩
            have p1 : zFx [26] [(8, 12), (8, 13)] hc2 hc3 := by rw [h3]; exact ((zFx.rf hc2).p2 rfl).p2 rfl
            have p3 : zFx [88] [(12, 52), (12, 53)] hr2 hr3 := by rw [k3]; exact ((zFx.rf hr2).p2 rfl).p2 rfl
            refine fin hc3 hr3 p1 (by rw [h3]; exact frpN (frpN (frrN hc2))) p3 (by rw [k3]; exact frpN (frpN (frrN hr2))) ?_ ?_ (by rw [h3]; rfl) ?_ ?_
            · rw [h3, k3]; exact v7
            · rw [h3, k3]
              refine ⟨rfl, (show (0 : Int) ≤ 3 by decide), (show (3 : Int) ≤ 3 by decide), fun _ => ⟨rfl, ?_, ?_⟩⟩
              · exact f0
              · show gt hc1 2 0 6 < gt hc2 2 0 6
                omega
            · unfold F_X8_failAtEnd F_X8_failAtEnd_0
              rw [if_pos (by decide), if_pos (show 0 ≤ S by omega), pc_8_10 c1, if_pos (by decide), s9.1, s9.2, v1]
              simp only [zb]
              rw [if_pos (by omega), y12'.1, if_pos w33, h3]
            · rw [v2]
              simp only [zb]
              rw [y52'.1, ← w1, if_pos w33, k3]
