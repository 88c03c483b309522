theorem zF_i : (zF : Int) = 4000000 := by decide
theorem zFr.x {T : Nat → Int → Prop} {l : List Nat} {m : List (Nat × Int)} {h h' : zH} (x : zFr T h h') (w : ∀ c j, T c j → c ∈ l ∨ (c, j) ∈ m) : zFx l m h h' := fun c j n1 n2 i => x c i j (fun t => by
  rcases w c j t with q | q
  · exact n1 q
  · exact n2 q)
theorem FrN.nn {a b : zH} (k : FrN a b) : nn b = nn a := by
  show b.2.2.2.1 = a.2.2.2.1
  rw [k.2]
theorem FrN.us {a b : zH} (k : FrN a b) : us b = us a := by
  show b.2.2.2.2 = a.2.2.2.2
  rw [k.2]
theorem ap_clean (l : Int) : Ap (F_X11_clean 0 l) (F_X12_clean 0 l) := fun N hc hr h0 h1 R => by
  have R' := R
  obtain ⟨a1, a2, a3, a4, a5, a6, a7, a8, a9, a10, a11, a12⟩ := R
  by_cases cl : 0 ≤ l ∧ l ≤ 60
  · have a5' := a5
    obtain ⟨p1, p2, p3, p4⟩ := a5'
    have a6' := a6
    obtain ⟨c1, c2, c3, c4, c5⟩ := a6'
    have hlim : gt hc 3 0 3 ≤ 60 := by omega
    have hlim2 : gt hr 12 0 4 ≤ 60 := by omega
    obtain ⟨m, hm⟩ : ∃ m, m = if gt hc 3 0 3 < l then gt hc 3 0 3 else l := ⟨_, rfl⟩
    have m0 : 0 ≤ m ∧ m ≤ gt hc 3 0 3 ∧ m ≤ 60 := by rw [hm]; split <;> omega
    obtain ⟨m1, m2, m3⟩ := m0
    have hz := zF_i
    have b28 : ∀ k : Int, 0 ≤ k → k < m → 0 ≤ gt hc 28 0 k ∧ gt hc 28 0 k < gt hc 3 0 1 := fun k x y => by
      obtain ⟨q1, q2, q3, q4⟩ := c4 k x (by omega)
      rw [q1]; exact ⟨q2, by omega⟩
    have b53 : ∀ k : Int, 0 ≤ k → k < m → 0 ≤ gt hr 53 0 k ∧ gt hr 53 0 k < 60 := fun k x y => by
      obtain ⟨q1, q2, q3, q4⟩ := c4 k x (by omega)
      exact ⟨q2, by omega⟩
    obtain ⟨x1, e1, n1, f1, g1, g1'⟩ := c_cl1 m3 zF 0 hc (Int.le_refl 0) m1 (by omega) a1 a4 p3 m2 hlim b28
    obtain ⟨y1, d1, o1, r1, s1, s1'⟩ := r_cl1 m3 zF 0 hr (Int.le_refl 0) m1 (by omega) a2 (by omega) hlim2 b53
    have x3 : gt x1 3 0 3 = gt hc 3 0 3 := f1 3 0 3 (by decide)
    have y3 : gt y1 12 0 4 = gt hr 12 0 4 := r1 12 0 4 (by decide)
    have fx1 : zFx [28] [(6, 3), (3, 3)] hc x1 := f1.x fun c j t => by obtain ⟨rfl, rfl⟩ := t; simp
    have fy1 : zFx [52, 53] [(12, 4)] hr y1 := r1.x fun c j t => by obtain rfl := t; simp
    obtain ⟨x2, e2, n2, f2, g2, g2'⟩ := c_cl2 m1 zF m x1 (Int.le_refl m) (by omega) (by omega) (a1.fr fx1 rfl) (by omega)
    obtain ⟨y2, d2, o2, r2, s2, s2'⟩ := r_cl2 m1 zF m y1 (Int.le_refl m) (by omega) (by omega) (a2.fr fy1 rfl) (by omega)
    rw [x3] at e2 g2
    rw [y3] at d2 s2
    have fx2 : zFx [28] [(6, 3), (3, 3)] x1 x2 := f2.x fun c j t => by obtain rfl := t; simp
    have fy2 : zFx [52, 53] [(12, 4)] y1 y2 := r2.x fun c j t => by obtain rfl := t; simp
    have xx : zFx [28] [(6, 3), (3, 3)] hc (pt x2 3 0 3 (gt hc 3 0 3 - m)) := (fx1.tr fx2).p2 rfl
    have yy : zFx [52, 53] [(12, 4)] hr (pt y2 12 0 4 (gt hr 12 0 4 - m)) := (fy1.tr fy2).p2 rfl
    have nx : FrN hc (pt x2 3 0 3 (gt hc 3 0 3 - m)) := frpN (n1.tr n2)
    have v6 : ∀ p, gt (pt x2 3 0 3 (gt hc 3 0 3 - m)) 6 p 3 = gt x1 6 p 3 := fun p => f2 6 p 3 (by decide)
    have v52 : ∀ p, gt (pt y2 12 0 4 (gt hr 12 0 4 - m)) 52 0 p = gt y1 52 0 p := fun p => r2 52 0 p (fun z => by cases z)
    have v28 : ∀ k, 0 ≤ k → k < gt hc 3 0 3 - m → gt (pt x2 3 0 3 (gt hc 3 0 3 - m)) 28 0 k = gt hc 28 0 (k + m) := fun k q1 q2 => (g2 k (by omega) q2).trans (f1 28 0 _ (fun z => by cases z.1))
    have v53 : ∀ k, 0 ≤ k → k < gt hr 12 0 4 - m → gt (pt y2 12 0 4 (gt hr 12 0 4 - m)) 53 0 k = gt hr 53 0 (k + m) := fun k q1 q2 => (s2 k (by omega) q2).trans (r1 53 0 _ (fun z => by cases z))
    have w3 : gt (pt x2 3 0 3 (gt hc 3 0 3 - m)) 3 0 3 = gt hc 3 0 3 - m := rfl
    have w4 : gt (pt y2 12 0 4 (gt hr 12 0 4 - m)) 12 0 4 = gt hr 12 0 4 - m := rfl
    have er : F_X11_clean 0 l hc = some (m, pt x2 3 0 3 (gt hc 3 0 3 - m)) := by
      unfold F_X11_clean F_X11_clean_0 F_X3_cleanFirst F_X3_cleanFirst_0
      rw [if_neg (by omega), if_pos cl.2]
      simp only [pc_11_0 a1, ← hm, e1, e2, zb]
      simp
    have es : F_X12_clean 0 l hr = some (m, pt y2 12 0 4 (gt hr 12 0 4 - m)) := by
      unfold F_X12_clean F_X12_clean_0
      rw [s_in]
      simp only [zb]
      rw [if_pos cl]
      by_cases q : gt hr 12 0 4 ≤ l
      · have : gt hr 12 0 4 = m := by rw [hm]; split <;> omega
        simp [q]
        rw [this, d1, d2, this]
      · have : l = m := by rw [hm]; split <;> omega
        simp [q]
        rw [this, d1, d2]
    generalize hX : pt x2 3 0 3 (gt hc 3 0 3 - m) = X at *
    generalize hY : pt y2 12 0 4 (gt hr 12 0 4 - m) = Y at *
    have t6 : gt X 3 0 1 = gt hc 3 0 1 := xx 3 1 (by decide) (by decide) 0
    have t12 : gt Y 12 0 0 = gt hr 12 0 0 := yy 12 0 (by decide) (by decide) 0
    have st : ∀ p : Int, (∃ k : Int, 0 ≤ k ∧ k < m ∧ gt hr 53 0 k = p ∧ gt X 6 p 3 = 0 ∧ gt Y 52 0 p = 0) ∨ ((∀ k : Int, 0 ≤ k → k < m → gt hr 53 0 k ≠ p) ∧ gt X 6 p 3 = gt hc 6 p 3 ∧ gt Y 52 0 p = gt hr 52 0 p) := fun p => by
      by_cases q : ∃ k : Int, 0 ≤ k ∧ k < m ∧ gt hr 53 0 k = p
      · obtain ⟨k, k1, k2, k3⟩ := q
        have k4 := (c4 k k1 (by omega)).1
        refine Or.inl ⟨k, k1, k2, k3, ?_, ?_⟩
        · rw [v6, ← k3, ← k4]; exact g1 k k1 k2
        · rw [v52, ← k3]; exact s1 k k1 k2
      · have q' : ∀ k : Int, 0 ≤ k → k < m → gt hr 53 0 k ≠ p := fun k k1 k2 k3 => q ⟨k, k1, k2, k3⟩
        refine Or.inr ⟨q', ?_, ?_⟩
        · rw [v6]; exact g1' p fun k k1 k2 => by rw [(c4 k k1 (by omega)).1]; exact q' k k1 k2
        · rw [v52]; exact s1' p fun k k1 k2 => q' k k1 k2
    refine ⟨m, X, Y, er, es, ⟨a1.fr xx rfl, a2.fr yy rfl, a3.fr xx rfl, a4.fr xx rfl nx.1 , ⟨?_, ?_, ?_, fun p q1 q2 => ?_⟩, ⟨?_, ?_, ?_, fun i q1 q2 => ?_, fun i j q1 q2 q3 => ?_⟩, a7.fr xx rfl yy rfl, (a8.fr xx rfl yy rfl).up (by omega), a9.fr xx rfl yy rfl, a10.fr xx rfl yy rfl, a11.fr xx rfl yy rfl, RK.st (fun c i j t => ?_) (fun c i j t n => ?_) (fun p q1 q2 => ?_) a12⟩, ?_, ?_⟩
    · rw [t6, t12, p1]
    · rw [t6]; exact p2
    · rw [t6]; exact p3
    · rw [t6] at q2
      obtain ⟨z1, z2, z3, z4, z5, z6, z7⟩ := p4 p q1 q2
      rw [xx 6 1 (by decide) (by decide), xx 6 2 (by decide) (by decide), yy 50 _ (by decide) (by simp), yy 51 _ (by decide) (by simp)]
      rcases st p with ⟨k, k1, k2, k3, k4, k5⟩ | ⟨k1, k2, k3⟩
      · rw [k4, k5]; exact ⟨z1, z2, rfl, z4, z5, by decide, by decide⟩
      · rw [k2, k3]; exact ⟨z1, z2, z3, z4, z5, z6, z7⟩
    · rw [w3, w4, c1]
    · rw [w3]; omega
    · rw [w3, t12]; omega
    · rw [w4] at q2
      obtain ⟨z1, z2, z3, z4⟩ := c4 (i + m) (by omega) (by omega)
      rw [v28 i q1 (by omega), v53 i q1 q2, t12]
      refine ⟨z1, z2, z3, ?_⟩
      rcases st (gt hr 53 0 (i + m)) with ⟨k, k1, k2, k3, k4, k5⟩ | ⟨k1, k2, k3⟩
      · exact absurd k3 (c5 k (i + m) k1 (by omega) (by omega))
      · rw [k3]; exact z4
    · rw [w4] at q3
      rw [v53 i q1 (by omega), v53 j (by omega) q3]
      exact c5 _ _ (by omega) (by omega) (by omega)
    · exact xx c j (by unfold tRKc at t; simp; omega) (by unfold tRKc at t; simp; omega) i
    · exact yy c j (by unfold tRKr at t; simp; omega) (by unfold tRKr at t; simp; omega) i
    · rcases st p with ⟨k, k1, k2, k3, k4, k5⟩ | ⟨k1, k2, k3⟩
      · rw [k5, ← k3, (c4 k k1 (by omega)).2.2.2]; decide
      · rw [k3]
    · have := nx.nn; omega
    · have := nx.us; omega
  · refine ⟨-102, hc, hr, ?_, ?_, R'.up, by omega, by omega⟩
    · unfold F_X11_clean F_X11_clean_0
      by_cases q : l < 0
      · rw [if_pos q]
      · rw [if_neg q, if_neg (by omega)]
    · unfold F_X12_clean F_X12_clean_0
      rw [s_in, if_neg cl]
      rfl
