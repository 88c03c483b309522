/-! a LOAN is given back with what hangs on it -/
abbrev zCl : List (Nat × Int) := [(4, 2), (4, 4), (4, 5), (4, 6), (4, 7), (9, 2)]
theorem c_chain {n : Nat} {S l how : Int} {sid : Int → Int} (n160 : n ≤ 160) : ∀ (f : Nat) (e i : Int) (hc hr : zH), LN n S e sid hc hr → (e = -1 ∨ (0 ≤ e ∧ e < n ∧ gt hr 80 0 e = 1 ∧ i ≤ e)) → (e = -1 → 0 < f) → (e ≠ -1 → n - e < f) → 0 ≤ i →
    ∃ hc' hr', F_X8_giveUp_5 f 0 l how e i hc = F_X8_giveUp_36 0 l how hc' ∧ zFx [] zCl hc hc' ∧ FrN hc hc' ∧ zFx [80] [] hr hr' ∧ FrN hr hr' ∧ LN n S (-1) sid hc' hr' ∧ (0 ≤ e → gt hr' 80 0 e = 0) ∧ (∀ i j, i ≠ 0 → gt hr' 80 i j = gt hr 80 i j) ∧
      ∀ k, gt hr' 80 0 k = gt hr 80 0 k ∨ (0 ≤ e ∧ 0 ≤ k ∧ k < n ∧ gt hr 80 0 k = 1 ∧ gt hr' 80 0 k = 0 ∧ (k = e ∨ (e < k ∧ gt hr 76 0 k = 2 ∧ gt hr' 80 0 (gt hr 77 0 k) = 0)))
  | 0, e, i, hc, hr, K, E, hf0, hf, i0 => by omega
  | f + 1, e, i, hc, hr, K, E, hf0, hf, i0 => by
    have st : F_X8_giveUp_5 (f + 1) 0 l how e i hc = F_X8_giveUp_5b (F_X8_giveUp_5 f) 0 l how e i hc := rfl
    rw [st]
    unfold F_X8_giveUp_5b
    by_cases c : e = -1
    · refine ⟨hc, hr, ?_, zFx.rf hc, frrN hc, zFx.rf hr, frrN hr, by rw [← c]; exact K, fun z => by omega, fun _ _ _ => rfl, fun k => Or.inl rfl⟩
      rw [if_pos c]
      split <;> rfl
    · have E' : 0 ≤ e ∧ e < n ∧ gt hr 80 0 e = 1 ∧ i ≤ e := by
        rcases E with z | z
        · exact absurd z c
        · exact z
      obtain ⟨e0, e1, e2, e3⟩ := E'
      have ri : -1000000 ≤ i + 1 ∧ i + 1 ≤ 1000000 := by omega
      have i160 : ¬ 160 ≤ i := by omega
      obtain ⟨hc1, p1, p2, p3, p4⟩ := K.cl e0 e1 e2
      obtain ⟨⟨b1, b2, b3, b4, b5⟩, ⟨c1, c2, c3, c4⟩⟩ := (K.1 e e0 e1).2
      have g80 : ∀ x, gt (pt hr 80 0 e 0) 80 0 x = if x = e then 0 else gt hr 80 0 x := fun x => by by_cases z : x = e <;> simp [gt_pt, z]
      have sub : gt hc 4 e 4 = -1 ∨ (e < gt hc 4 e 4 ∧ gt hc 4 e 4 < n ∧ gt hr 80 0 (gt hc 4 e 4) = 1 ∧ gt hr 77 0 (gt hc 4 e 4) = e ∧ gt hr 76 0 (gt hc 4 e 4) = 2) := by
        by_cases z : gt hc 4 e 4 = -1
        · exact Or.inl z
        · have q0 : 0 ≤ gt hc 4 e 4 := by omega
          have q := (b5 (gt hc 4 e 4) q0 b4).mp rfl
          obtain ⟨a1, a2, a3, a4, a5, a6, a7, a8⟩ := (K.1 _ q0 b4).1
          have s2 : gt hr 76 0 (gt hc 4 e 4) = 2 := Classical.byContradiction fun y => by
            have := a8 y
            rw [q.2] at this
            omega
          have := (a7 s2).2.1
          rw [q.2] at this
          exact Or.inr ⟨this, b4, q.1, q.2, s2⟩
      obtain ⟨e', he⟩ : ∃ e', e' = gt hc 4 e 4 := ⟨_, rfl⟩
      rw [← he] at sub p4
      have E1 : e' = -1 ∨ (0 ≤ e' ∧ e' < n ∧ gt (pt hr 80 0 e 0) 80 0 e' = 1 ∧ i + 1 ≤ e') := by
        rcases sub with z | ⟨z1, z2, z3, z4⟩
        · exact Or.inl z
        · refine Or.inr ⟨by omega, z2, ?_, by omega⟩
          rw [g80, if_neg (by omega)]; exact z3
      have hf1 : e' ≠ -1 → n - e' < f := fun y => by
        rcases sub with z | z
        · exact absurd z y
        · omega
      have hf2 : e' = -1 → 0 < f := fun y => by omega
      obtain ⟨hc', hr', q1, q2, q3, q4, q5, q6, q7, q8, q9⟩ := c_chain n160 f e' (i + 1) hc1 (pt hr 80 0 e 0) p4 E1 hf2 hf1 (by omega)
      have g76 : ∀ x, gt (pt hr 80 0 e 0) 76 0 x = gt hr 76 0 x ∧ gt (pt hr 80 0 e 0) 77 0 x = gt hr 77 0 x := fun x => ⟨by simp [gt_pt], by simp [gt_pt]⟩
      have ee : gt hr' 80 0 e = 0 := by
        rcases q9 e with z | z
        · rw [z, g80, if_pos rfl]
        · exact z.2.2.2.2.1
      refine ⟨hc', hr', ?_, p2.tr q2, p3.tr q3, ((zFx.rf hr).p1 rfl).tr q4, (frpN (frrN hr)).tr q5, q6, fun _ => ee, fun x j z => ?_, fun k => ?_⟩
      · rw [if_neg i160, if_neg c, if_pos e0, p1]
        simp only [zb]
        rw [wI_s ri, ← he]; exact q1
      · rw [q8 x j z]; simp [gt_pt, z]
      · by_cases z : k = e
        · rw [z, ee]
          exact Or.inr ⟨e0, e0, e1, e2, rfl, Or.inl rfl⟩
        · rcases q9 k with y | ⟨yy, y0, y1, y2, y3, y4⟩
          · rw [y, g80, if_neg z]; exact Or.inl rfl
          · rw [g80, if_neg z] at y2
            refine Or.inr ⟨e0, y0, y1, y2, y3, Or.inr ?_⟩
            rcases sub with w | ⟨w1, w2, w3, w4, w5⟩
            · omega
            · rcases y4 with y4 | ⟨y4, y5, y6⟩
              · rw [y4, w4]
                exact ⟨w1, w5, ee⟩
              · rw [(g76 k).1] at y5
                rw [(g76 k).2] at y6
                exact ⟨by omega, y5, y6⟩
/-- the reference's row of LOANS that hang on closed ones -/
theorem r_gb {n : Nat} {l how : Int} (n160 : n ≤ 160) (l0 : 0 ≤ l) (l1 : l < n) : ∀ (f : Nat) (k : Int) (h : zH), 0 ≤ k → k ≤ n → n - k < f → PIr h → gt h 12 0 34 = n → (∀ j : Int, 0 ≤ j → j < n → gt h 76 0 j = 2 → 0 ≤ gt h 77 0 j ∧ gt h 77 0 j < j) →
    ∃ h', F_X12_giveBack_11 f 0 l how k h = (if gt h 76 0 l = 2 then some (0, h') else zb (F_X12_comesBack 0 (gt h 75 0 l) how (gt h 12 0 61) h') (fun r7 h7 => if r7 = 0 then (some (0, h7)) else (some (1, h7)))) ∧ zFx [80] [] h h' ∧ FrN h h' ∧ (∀ i j, i ≠ 0 → gt h' 80 i j = gt h 80 i j) ∧ (∀ j, (j < k ∨ n ≤ j) → gt h' 80 0 j = gt h 80 0 j) ∧
      ∀ j, k ≤ j → j < n → gt h' 80 0 j = if gt h 76 0 j = 2 ∧ gt h' 80 0 (gt h 77 0 j) = 0 then 0 else gt h 80 0 j
  | 0, k, h, k0, k1, hf, hp, hn, H => by omega
  | f + 1, k, h, k0, k1, hf, hp, hn, H => by
    have st : F_X12_giveBack_11 (f + 1) 0 l how k h = F_X12_giveBack_11b (F_X12_giveBack_11 f) 0 l how k h := rfl
    have l180 : l < 180 := by omega
    have rk : -1000000 ≤ k + 1 ∧ k + 1 ≤ 1000000 := by omega
    rw [st]
    unfold F_X12_giveBack_11b
    rw [if_pos (by decide), hn]
    by_cases c : (n : Int) ≤ k
    · refine ⟨h, ?_, zFx.rf h, frrN h, fun _ _ _ => rfl, fun _ _ => rfl, fun j a b => by omega⟩
      rw [if_pos c, pr_36 hp, if_pos (by decide), if_pos ⟨l0, l180⟩]
      by_cases d : gt h 76 0 l = 2
      · rw [if_pos d, if_pos d]
      · rw [if_neg d, if_neg d, pr_35 hp, if_pos (by decide)]
    · have kb : 0 ≤ k ∧ k < 180 := by omega
      have hf1 : n - (k + 1) < f := by omega
      have k2 : k + 1 ≤ n := by omega
      rw [if_neg c, pr_36 hp, if_pos (by decide), if_pos kb, wI_s rk]
      by_cases d : gt h 76 0 k = 2
      · have Hk := H k k0 (by omega) d
        have hb : 0 ≤ gt h 77 0 k ∧ gt h 77 0 k < 180 := by omega
        rw [if_neg (by simpa using d), pr_37 hp, if_pos (by decide), pr_40 hp, if_pos (by decide), if_pos hb]
        by_cases e : gt h 80 0 (gt h 77 0 k) = 0
        · rw [if_neg (by simpa using e)]
          have g : ∀ c i j, c ≠ 80 → gt (pt h 80 0 k 0) c i j = gt h c i j := fun c i j z => by simp [gt_pt, z]
          have g80 : ∀ x, gt (pt h 80 0 k 0) 80 0 x = if x = k then 0 else gt h 80 0 x := fun x => by by_cases z : x = k <;> simp [gt_pt, z]
          obtain ⟨h', w1, w2, w3, w4, w5, w6⟩ := r_gb n160 l0 l1 f (k + 1) (pt h 80 0 k 0) (by omega) k2 hf1 (hp.fr (l := [80]) (m := []) ((zFx.rf h).p1 rfl) rfl) (by rw [g 12 0 34 (by decide)]; exact hn) (fun j a b z => by rw [g 77 0 j (by decide)]; rw [g 76 0 j (by decide)] at z; exact H j a b z)
          rw [g 76 0 l (by decide), g 75 0 l (by decide), g 12 0 61 (by decide)] at w1
          refine ⟨h', w1, ((zFx.rf h).p1 rfl).tr w2, (frpN (frrN h)).tr w3, fun i j z => ?_, fun j z => ?_, fun j a b => ?_⟩
          · rw [w4 i j z]; simp [gt_pt, z]
          · rw [w5 j (by omega), g80, if_neg (by omega)]
          · by_cases z : j = k
            · have v1 : gt h' 80 0 k = 0 := by rw [w5 k (by omega), g80, if_pos rfl]
              have v2 : gt h' 80 0 (gt h 77 0 k) = 0 := by rw [w5 (gt h 77 0 k) (by omega), g80, if_neg (by omega)]; exact e
              rw [z, v1, if_pos ⟨d, v2⟩]
            · rw [w6 j (by omega) b, g 76 0 j (by decide), g 77 0 j (by decide), g80, if_neg z]
        · rw [if_pos e]
          obtain ⟨h', w1, w2, w3, w4, w5, w6⟩ := r_gb n160 l0 l1 f (k + 1) h (by omega) k2 hf1 hp hn H
          refine ⟨h', w1, w2, w3, w4, fun j z => w5 j (by omega), fun j a b => ?_⟩
          by_cases z : j = k
          · rw [z, w5 k (by omega), w5 (gt h 77 0 k) (by omega), if_neg (fun y => e y.2)]
          · exact w6 j (by omega) b
      · rw [if_pos d]
        obtain ⟨h', w1, w2, w3, w4, w5, w6⟩ := r_gb n160 l0 l1 f (k + 1) h (by omega) k2 hf1 hp hn H
        refine ⟨h', w1, w2, w3, w4, fun j z => w5 j (by omega), fun j a b => ?_⟩
        by_cases z : j = k
        · rw [z, w5 k (by omega), if_neg (fun y => d y.1)]
        · exact w6 j (by omega) b
/-- the same LOANS are closed on both sides -/
theorem m_close {n : Nat} {S l how : Int} {sid : Int → Int} {hc hr : zH} (n160 : n ≤ 160) (K : LN n S (-1) sid hc hr) (hp : PIr hr) (hn : gt hr 12 0 34 = n) (l0 : 0 ≤ l) (l1 : l < n) (op : gt hr 80 0 l = 1) :
    ∃ hc' hr', F_X8_giveUp 0 l how hc = F_X8_giveUp_36 0 l how hc' ∧ F_X12_giveBack 0 l how hr = (if gt hr 76 0 l = 2 then some (0, hr') else zb (F_X12_comesBack 0 (gt hr 75 0 l) how (gt hr 12 0 61) hr') (fun r7 h7 => if r7 = 0 then (some (0, h7)) else (some (1, h7)))) ∧
      zFx [] zCl hc hc' ∧ FrN hc hc' ∧ zFx [80] [] hr hr' ∧ FrN hr hr' ∧ LN n S (-1) sid hc' hr' ∧ gt hr' 80 0 l = 0 ∧ ∀ k, gt hr' 80 0 k = gt hr 80 0 k ∨ (0 ≤ k ∧ k < n ∧ gt hr 80 0 k = 1 ∧ gt hr' 80 0 k = 0 ∧ (k = l ∨ gt hr 76 0 k = 2)) := by
  have hz := zF_i
  have K0 : LN n S l sid hc hr := by
    refine ⟨fun k a b => ?_, K.2⟩
    obtain ⟨x1, x2, x3, x4⟩ := K.1 k a b
    exact ⟨x1, x2, fun u v w => x3 u v (by omega), x4⟩
  obtain ⟨hc', hr', q1, q2, q3, q4, q5, q6, q7, q8, q9⟩ := c_chain (how := how) (l := l) n160 zF l 0 hc hr K0 (Or.inr ⟨l0, l1, op, l0⟩) (by omega) (by omega) (Int.le_refl 0)
  have g80 : ∀ x, gt (pt hr 80 0 l 0) 80 0 x = if x = l then 0 else gt hr 80 0 x := fun x => by by_cases z : x = l <;> simp [gt_pt, z]
  have g : ∀ c i j, c ≠ 80 → gt (pt hr 80 0 l 0) c i j = gt hr c i j := fun c i j z => by simp [gt_pt, z]
  have rl : -1000000 ≤ l + 1 ∧ l + 1 ≤ 1000000 := by omega
  obtain ⟨h', w1, w2, w3, w4, w5, w6⟩ := r_gb (how := how) n160 l0 l1 zF (l + 1) (pt hr 80 0 l 0) (by omega) (by omega) (by omega) (hp.fr (l := [80]) (m := []) ((zFx.rf hr).p1 rfl) rfl) (by rw [g 12 0 34 (by decide)]; exact hn) (fun j a b z => by
    rw [g 77 0 j (by decide)]; rw [g 76 0 j (by decide)] at z
    have := (K.1 j a b).1.2.2.2.2.2.2.1 z
    exact ⟨this.1, this.2.1⟩)
  rw [g 76 0 l (by decide), g 75 0 l (by decide), g 12 0 61 (by decide)] at w1
  have q7 := q7 l0
  have E : ∀ m : Nat, ∀ k : Int, 0 ≤ k → k < n → k < m → gt hr' 80 0 k = gt h' 80 0 k := by
    intro m
    induction m with
    | zero => intro k a _ b; omega
    | succ m ih =>
      intro k a b km
      rcases Int.lt_trichotomy k l with z | z | z
      · rw [w5 k (by omega), g80, if_neg (by omega)]
        rcases q9 k with y | y
        · exact y
        · rcases y.2.2.2.2.2 with y | y <;> omega
      · rw [z, q7, w5 l (by omega), g80, if_pos rfl]
      · have e80 : gt (pt hr 80 0 l 0) 80 0 k = gt hr 80 0 k := by rw [g80, if_neg (by omega)]
        rw [w6 k (by omega) b, g 76 0 k (by decide), g 77 0 k (by decide), e80]
        by_cases s2 : gt hr 76 0 k = 2
        · have hb := (K.1 k a b).1.2.2.2.2.2.2.1 s2
          have := ih (gt hr 77 0 k) hb.1 (by omega) (by omega)
          rw [← this]
          have e76 : gt hr' 76 0 k = gt hr 76 0 k ∧ gt hr' 77 0 k = gt hr 77 0 k := ⟨q4 76 k (by decide) (by simp) 0, q4 77 k (by decide) (by simp) 0⟩
          obtain ⟨⟨b1, b2, b3⟩, ⟨c1, c2⟩⟩ := (q6.1 k a b).2
          by_cases y : gt hr' 80 0 (gt hr 77 0 k) = 0
          · rw [if_pos ⟨s2, y⟩]
            rcases b2 with b2 | b2
            · exact b2
            · have := c1 b2 (by rw [e76.1]; exact s2) (by omega)
              rw [e76.2, y] at this; cases this
          · rw [if_neg (fun t => y t.2)]
            rcases q9 k with x | x
            · exact x
            · rcases x.2.2.2.2.2 with x | x
              · omega
              · exact absurd x.2.2 y
        · rw [if_neg (fun t => s2 t.1)]
          rcases q9 k with x | x
          · exact x
          · rcases x.2.2.2.2.2 with x | x
            · omega
            · exact absurd x.2.1 s2
  have EE : h' = hr' := zH_ext ((show FrN hr' hr from ⟨q5.1.symm, q5.2.symm⟩).tr ((frpN (frrN hr)).tr w3)) fun c i j => by
    by_cases z : c = 80
    · rw [z]
      by_cases y : i = 0
      · rw [y]
        by_cases x : 0 ≤ j ∧ j < n
        · exact (E (j.toNat + 1) j x.1 x.2 (by omega)).symm
        · rw [w5 j (by omega), g80, if_neg (by omega)]
          rcases q9 j with t | t
          · exact t.symm
          · exact absurd ⟨t.2.1, t.2.2.1⟩ x
      · rw [w4 i j y, q8 i j y]; simp [gt_pt, y]
    · rw [w2 c j (by simpa using z) (by simp) i, g c i j z, q4 c j (by simpa using z) (by simp) i]
  refine ⟨hc', hr', ?_, ?_, q2, q3, q4, q5, q6, q7, fun k => ?_⟩
  · unfold F_X8_giveUp F_X8_giveUp_0; exact q1
  · unfold F_X12_giveBack F_X12_giveBack_0
    rw [if_pos (by decide), pr_40 hp, if_pos (by decide), if_pos ⟨l0, by omega⟩, wI_s rl, w1, EE]
  · rcases q9 k with x | ⟨_, x1, x2, x3, x4, x5⟩
    · exact Or.inl x
    · refine Or.inr ⟨x1, x2, x3, x4, ?_⟩
      rcases x5 with x | x
      · exact Or.inl x
      · exact Or.inr x.2.1
