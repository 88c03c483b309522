/-! ENDS and clauses that are reached -/
theorem jb16 {ops as bs : Int → Int} {k : Int} {s : zK} (h : jbad ops as bs k s = 0) (o : ops k = 16) : s ≠ [] := fun z => by
  unfold jbad at h
  by_cases c : jwr (ops k) (as k) (bs k)
  · rw [if_pos c] at h; cases h
  · rw [if_neg c, if_pos o, if_pos z] at h; cases h
theorem jb14 {ops as bs : Int → Int} {k : Int} {s : zK} (h : jbad ops as bs k s = 0) (o : ops k = 14 ∨ ops k = 15) : ∃ e t, s = e :: t ∧ ops e.1 = 13 ∧ ops e.2 ≠ 15 := by
  unfold jbad at h
  by_cases c : jwr (ops k) (as k) (bs k)
  · rw [if_pos c] at h; cases h
  · have o' : ¬ ops k = 16 := by omega
    rw [if_neg c, if_neg o', if_pos o] at h
    cases s with
    | nil => cases h
    | cons e t =>
      refine ⟨e, t, rfl, ?_⟩
      have h : (if ops e.1 = 13 ∧ ops e.2 ≠ 15 then (0 : Int) else 2) = 0 := h
      by_cases y : ops e.1 = 13 ∧ ops e.2 ≠ 15
      · exact y
      · rw [if_neg y] at h; cases h
theorem r_eb {hr : zH} {a op : Int} {t : Nat} {p : Int} (a2 : PIr hr) (e67 : gt hr 12 0 67 = a) (ab : 0 ≤ a ∧ a < 150) (e25 : gt hr 12 0 25 - 1 = p) (pb : 0 ≤ p ∧ p < 150) (e68 : gt hr 68 0 p = op) (t40 : t ≤ 40) :
    F_X12_endBlock 0 t hr = (if op ≠ 12 then (if op ≠ 11 then (if gt hr 70 0 p ≠ 2 then some (0, pt (pt (pt (pt hr 72 0 a ((t : Int) + 1)) 12 0 52 0) 12 0 53 (gt hr 12 0 53)) 12 0 25 p) else some (0, pt (pt (pt (pt hr 72 0 a ((t : Int) + 1)) 12 0 52 (gt hr 71 0 p)) 12 0 53 (gt hr 73 0 p)) 12 0 25 p)) else (if gt hr 70 0 p ≤ 0 then some (0, pt (pt hr 72 0 a ((t : Int) + 1)) 12 0 25 p) else zb (F_X12_step 0 (pt (pt hr 72 0 a ((t : Int) + 1)) 70 0 p (wI (gt hr 70 0 p - 1)))) (fun r22 h22 => if r22 = 0 then (some (0, h22)) else (if 0 ≤ gt h22 12 0 27 then (zb (F_X12_goTo 0 (wI ((gt h22 69 (gt h22 12 0 27) p) + 1)) h22) (fun _ h25 => some (0, h25))) else none)))) else zb (F_X12_endScope 0 (pt hr 72 0 a ((t : Int) + 1))) (fun _ h => some (0, h))) := by
  have rt : -1000000 ≤ (t : Int) + 1 ∧ (t : Int) + 1 ≤ 1000000 := by omega
  have rp : -1000000 ≤ gt hr 12 0 25 - 1 ∧ gt hr 12 0 25 - 1 ≤ 1000000 := by omega
  obtain ⟨h2, hh⟩ : ∃ h2, h2 = pt hr 72 0 a ((t : Int) + 1) := ⟨_, rfl⟩
  have x : zFx [72] [] hr h2 := by rw [hh]; exact (zFx.rf hr).p1 rfl
  have d2 : PIr h2 := a2.fr x rfl
  have g : ∀ (d : Nat) (j : Int), d ≠ 72 → gt h2 d 0 j = gt hr d 0 j := fun d j z => x d j (by simpa using z) (by simp) 0
  unfold F_X12_endBlock F_X12_endBlock_0
  rw [if_pos (Int.le_refl 0), wI_s rt, s_goTo a2 e67 ab.1 ab.2, ← hh]
  simp only [zb, zl]
  rw [wI_s rp, e25, pr_26 d2, if_pos (Int.le_refl 0), if_pos pb, g 68 _ (by decide), e68]
  by_cases o : op = 12
  · have o' : ¬ (op ≠ 12) := by simpa using o
    rw [if_neg o', if_neg o']
  · rw [if_pos o, if_pos o]
    by_cases q : op = 11
    · have q' : ¬ (op ≠ 11) := by simpa using q
      rw [if_neg q', if_neg q', pr_28 d2, if_pos (Int.le_refl 0), g 70 _ (by decide), g 12 25 (by decide), wI_s rp, e25]
    · have t28 : gt (pt h2 12 0 52 0) 12 0 28 = 0 := pr_28 d2
      have t28' : gt (pt h2 12 0 52 (gt hr 71 0 p)) 12 0 28 = 0 := pr_28 d2
      have t31' : gt (pt h2 12 0 52 (gt hr 71 0 p)) 12 0 31 = 0 := pr_31 d2
      have u1 : gt (pt h2 12 0 52 0) 70 0 p = gt hr 70 0 p := g 70 _ (by decide)
      have u2 : gt (pt h2 12 0 52 (gt hr 71 0 p)) 70 0 p = gt hr 70 0 p := g 70 _ (by decide)
      have u3 : gt (pt h2 12 0 52 0) 12 0 53 = gt hr 12 0 53 := g 12 53 (by decide)
      have u4 : gt (pt h2 12 0 52 (gt hr 71 0 p)) 73 0 p = gt hr 73 0 p := g 73 _ (by decide)
      have u5 : gt (pt (pt h2 12 0 52 0) 12 0 53 (gt hr 12 0 53)) 12 0 25 = gt hr 12 0 25 := g 12 25 (by decide)
      have u6 : gt (pt (pt h2 12 0 52 (gt hr 71 0 p)) 12 0 53 (gt hr 73 0 p)) 12 0 25 = gt hr 12 0 25 := g 12 25 (by decide)
      rw [if_pos q, if_pos q, pr_28 d2, if_pos (Int.le_refl 0), g 70 _ (by decide)]
      by_cases y : gt hr 70 0 p = 2
      · have y' : ¬ (gt hr 70 0 p ≠ 2) := by simpa using y
        rw [if_neg y', if_neg y', pr_29 d2, if_pos (Int.le_refl 0), g 71 _ (by decide), t28', if_pos (Int.le_refl 0), u2, if_neg y', t31', if_pos (Int.le_refl 0), u4, u6, wI_s rp, e25]
      · rw [if_pos y, if_pos y, t28, if_pos (Int.le_refl 0), u1, if_pos y, u3, u5, wI_s rp, e25]
/-- a turn of a LOOP -/
theorem RB.tl {B : Int} {n : Nat} {S c : Int} {sid : Int → Int} {b' : Nat} {k a : Int} {cx : zK} {hc hr hc' hr' : zH} {L : Nat} (X : RB B n S c sid (b' + 1) k a (((L : Int), (L : Int)) :: cx) hc hr) (e : EB hc hr (b' + 1) (b' + k) k 11 L L cx) (K : Stk hc hr sid b' k S a cx)
    (xc : zFx [0] [(1, 2)] hc hc') (en : FrN hc hc') (x0 : ∀ i j, i ≠ (b' : Int) + 1 → gt hc' 0 i j = gt hc 0 i j) (x01 : gt hc' 0 ((b' : Int) + 1) 0 = gt hc 0 ((b' : Int) + 1) 0 ∧ gt hc' 0 ((b' : Int) + 1) 1 = gt hc 0 ((b' : Int) + 1) 1) (x12 : ∀ i, i ≠ k → gt hc' 1 i 2 = gt hc 1 i 2)
    (xr : zFx [70, 72] [] hr hr') (x70 : ∀ j, j ≠ (b' : Int) + k → gt hr' 70 0 j = gt hr 70 0 j ∧ (j ≠ a → gt hr' 72 0 j = gt hr 72 0 j)) (T : EL hc' hr' (b' + 1) (b' + k)) :
    RB B n S c sid (b' + 1) k a (((L : Int), (L : Int)) :: cx) hc' hr' := by
  obtain ⟨z1, z2, z3, z4, z5, z6⟩ := X
  obtain ⟨y1, y2, y3, y4, y5, y6, m0, y7, y8, y9, y10, y11, y12⟩ := e
  have g43 : ∀ q : Nat, ([43, 44, 45] : List Nat).contains q = true → gt hc' q = gt hc q := fun q z => by
    funext i j
    refine xc q j (fun w => ?_) (fun w => ?_) i
    · simp at w z; omega
    · simp at w z; omega
  have KO : Stk hc' hr' sid b' k S a cx := K.cg (x := a) (g43 43 rfl) (g43 44 rfl) (g43 45 rfl) (xc 11 2 (by simp) (by decide) 0) (by funext j; exact xr 62 j (by simp) (by simp) 0) (by rw [xc 2 6 (by simp) (by decide) 0]; exact Int.le_refl _) (Or.inl rfl) (fun i i1 i2 j => x0 i j (by omega)) (fun i i1 i2 => ⟨xc 1 0 (by simp) (by decide) i, xc 1 1 (by simp) (by decide) i, fun w => x12 i (by omega)⟩) (fun i i1 i2 => ⟨xc 9 0 (by simp) (by decide) i, xc 9 1 (by simp) (by decide) i, rfl⟩) (fun j j0 j1 => by
    obtain ⟨w1, w3⟩ := x70 j (by omega)
    exact ⟨xr 68 j (by simp) (by simp) 0, xr 69 j (by simp) (by simp) 0, w1, xr 71 j (by simp) (by simp) 0, fun ja => ⟨w3 ja, xr 73 j (by simp) (by simp) 0⟩⟩)
  have e11 : gt hc' 1 k 1 = gt hc 1 k 1 := xc 1 1 (by simp) (by decide) k
  have zj : ∀ u, zjs hc' (gt hc 1 k 1) u = zjs hc (gt hc 1 k 1) u := fun u => zjs.fr xc rfl
  refine ⟨z1.fr xc rfl en xr rfl, z2.fr xc rfl xr rfl, Or.inr ⟨L, L, cx, rfl, Or.inr (Or.inl ⟨⟨y1, ?_, ?_, ?_, ?_, ?_, m0, ?_, Nat.le_refl L, y9, ?_, ?_, ?_⟩, rfl, T, KO⟩)⟩, z4, z5.fr xc rfl xr rfl, z6.fr xc rfl xr rfl⟩
  · rw [x01.1]; exact y2
  · rw [xr 68 _ (by simp) (by simp) 0]; exact y3
  · rw [x01.2]; exact y4
  · rw [xr 69 _ (by simp) (by simp) 0]; exact y5
  · rw [e11, g43 43 rfl]; exact y6
  · rw [e11]; exact y7.fr xc rfl xr rfl
  · rw [e11, zj]; exact y10
  · rw [e11, zj]; exact y11
  · rw [e11, zj]; exact y11
