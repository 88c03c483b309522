theorem RC.room {hc hr : zH} {p : Int} (k1 : RP hc hr) (k : RC hc hr) (p0 : 0 ≤ p) (p1 : p < gt hr 12 0 0) (st : gt hr 52 0 p = 1) : gt hc 3 0 3 < gt hr 12 0 0 := by
  obtain ⟨q1, q2, q3, q4⟩ := k1
  obtain ⟨c1, c2, c3, c4, c5⟩ := k
  obtain ⟨m, hm⟩ : ∃ m : Nat, (m : Int) = gt hc 3 0 3 := ⟨(gt hc 3 0 3).toNat, by omega⟩
  obtain ⟨n, hn⟩ : ∃ n : Nat, (n : Int) = gt hr 12 0 0 := ⟨(gt hr 12 0 0).toNat, by omega⟩
  have := zPig (lp := fun i => if i < m then gt hr 53 0 i else p) (m := m + 1) (n := n) (fun i a b => by
    by_cases z : i < m
    · obtain ⟨w1, w2, w3, w4⟩ := c4 i a (by omega)
      simp only [if_pos z]
      exact ⟨w2, by omega⟩
    · simp only [if_neg z]
      exact ⟨p0, by omega⟩) (fun i j a b c => by
    have z : i < m := by omega
    simp only [if_pos z]
    by_cases y : j < m
    · simp only [if_pos y]
      exact c5 i j a b (by omega)
    · simp only [if_neg y]
      obtain ⟨w1, w2, w3, w4⟩ := c4 i a (by omega)
      intro e
      rw [e, st] at w4
      cases w4)
  omega
theorem RP.st {hc hr : zH} {p s : Int} (k : RP hc hr) (s0 : 0 ≤ s ∧ s ≤ 3) : RP (pt hc 6 p 3 s) (pt hr 52 0 p s) := by
  obtain ⟨q1, q2, q3, q4⟩ := k
  refine ⟨q1, q2, q3, fun q a b => ?_⟩
  obtain ⟨w1, w2, w3, w4, w5, w6, w7⟩ := q4 q a b
  have g1 : gt (pt hc 6 p 3 s) 6 q 1 = gt hc 6 q 1 := by simp [gt_pt]
  have g2 : gt (pt hc 6 p 3 s) 6 q 2 = gt hc 6 q 2 := by simp [gt_pt]
  have g3 : gt (pt hc 6 p 3 s) 6 q 3 = if q = p then s else gt hc 6 q 3 := by by_cases z : q = p <;> simp [gt_pt, z]
  have g4 : gt (pt hr 52 0 p s) 52 0 q = if q = p then s else gt hr 52 0 q := by by_cases z : q = p <;> simp [gt_pt, z]
  have g5 : gt (pt hr 52 0 p s) 50 = gt hr 50 := rfl
  have g6 : gt (pt hr 52 0 p s) 51 = gt hr 51 := rfl
  rw [g1, g2, g3, g4, g5, g6]
  by_cases z : q = p
  · simp only [if_pos z]; exact ⟨w1, w2, trivial, w4, w5, s0.1, s0.2⟩
  · simp only [if_neg z]; exact ⟨w1, w2, w3, w4, w5, w6, w7⟩
theorem RC.st {hc hr : zH} {p s : Int} (k : RC hc hr) (st : gt hr 52 0 p = 1) : RC (pt hc 6 p 3 s) (pt hr 52 0 p s) := by
  obtain ⟨c1, c2, c3, c4, c5⟩ := k
  refine ⟨c1, c2, c3, fun i a b => ?_, c5⟩
  obtain ⟨w1, w2, w3, w4⟩ := c4 i a b
  refine ⟨w1, w2, w3, ?_⟩
  have g4 : gt (pt hr 52 0 p s) 52 0 (gt (pt hr 52 0 p s) 53 0 i) = if gt hr 53 0 i = p then s else gt hr 52 0 (gt hr 53 0 i) := by
    show gt (pt hr 52 0 p s) 52 0 (gt hr 53 0 i) = _
    by_cases z : gt hr 53 0 i = p <;> simp [gt_pt, z]
  rw [g4, if_neg]
  · exact w4
  · intro z; rw [z, st] at w4; cases w4
theorem RC.add {hc hr : zH} {p : Int} (k : RC hc hr) (p0 : 0 ≤ p) (p1 : p < gt hr 12 0 0) (st : gt hr 52 0 p = 2) (room : gt hc 3 0 3 < gt hr 12 0 0) (nw' : ∀ i, 0 ≤ i → i < gt hr 12 0 4 → gt hr 53 0 i ≠ p) :
    RC (pt (pt hc 28 0 (gt hc 3 0 3) p) 3 0 3 (gt hc 3 0 3 + 1)) (pt (pt hr 53 0 (gt hc 3 0 3) p) 12 0 4 (gt hc 3 0 3 + 1)) := by
  obtain ⟨c1, c2, c3, c4, c5⟩ := k
  obtain ⟨X, hX⟩ : ∃ X, X = pt (pt hc 28 0 (gt hc 3 0 3) p) 3 0 3 (gt hc 3 0 3 + 1) := ⟨_, rfl⟩
  obtain ⟨Y, hY⟩ : ∃ Y, Y = pt (pt hr 53 0 (gt hc 3 0 3) p) 12 0 4 (gt hc 3 0 3 + 1) := ⟨_, rfl⟩
  have x1 : gt X 3 0 3 = gt hc 3 0 3 + 1 ∧ gt Y 12 0 4 = gt hc 3 0 3 + 1 ∧ gt Y 12 0 0 = gt hr 12 0 0 ∧ gt Y 52 = gt hr 52 := by rw [hX, hY]; exact ⟨rfl, rfl, rfl, rfl⟩
  have x2 : ∀ i, gt X 28 0 i = (if i = gt hc 3 0 3 then p else gt hc 28 0 i) ∧ gt Y 53 0 i = (if i = gt hc 3 0 3 then p else gt hr 53 0 i) := fun i => by
    rw [hX, hY]; by_cases z : i = gt hc 3 0 3 <;> simp [gt_pt, z]
  rw [← hX, ← hY]
  clear hX hY
  unfold RC
  rw [x1.1, x1.2.1, x1.2.2.1, x1.2.2.2]
  refine ⟨rfl, by omega, by omega, fun i a b => ?_, fun i j a b c => ?_⟩
  · rw [(x2 i).1, (x2 i).2]
    by_cases z : i = gt hc 3 0 3
    · simp only [if_pos z]; exact ⟨trivial, p0, p1, st⟩
    · simp only [if_neg z]; exact c4 i a (by omega)
  · rw [(x2 i).2, (x2 j).2, if_neg (show ¬ i = gt hc 3 0 3 by omega)]
    by_cases z : j = gt hc 3 0 3
    · rw [if_pos z]; exact nw' i a (by omega)
    · rw [if_neg z]; exact c5 i j a b (by omega)
theorem RCh.add {hc hr : zH} {c v : Int} (k : RCh hc hr) : RCh (pt hc 30 0 c v) (pt hr 58 0 c v) := fun i a b => by
  by_cases z : i = c
  · simp [gt_pt, z]
  · have := k i a b
    simp [gt_pt, z, this]
/-- a PART comes back, on both sides -/
theorem tb_core {B p how cust i0 : Int} {hc hr : zH} (a1 : PIc hc) (a2 : PIr hr) (a5 : RP hc hr) (a6 : RC hc hr) (a7 : RPl hc hr) (a8 : RLg B hc hr) (a9 : RCh hc hr) (hB : B ≤ 1000000) (p0 : 0 ≤ p) (p1 : p < gt hr 12 0 0) (p6 : gt hc 6 p 0 = p) (st : gt hr 52 0 p = 1) (cu : gt hc 6 p 4 = cust) (cu0 : 0 ≤ cust ∧ cust < 8)
    (i00 : 0 ≤ i0) (h5 : 0 ≤ gt hc 3 0 5 ∧ gt hc 3 0 5 ≤ 60) (U : ∀ k, 0 ≤ k → k < gt hc 3 0 5 → (gt hc 29 0 k = p ↔ k = i0)) :
    ∃ r hc' hr', F_X3_takeBack 0 p how hc = some (r, hc') ∧ F_X12_comesBack 0 p how cust hr = some (r, hr') ∧ (r = 0 ∨ r = 1) ∧ zFx [28, 29, 30, 31, 32, 33, 36, 37, 38] [(3, 3), (3, 5), (5, 3), (5, 4), (6, 3), (7, 3)] hc hc' ∧ zFx [52, 53, 54, 55, 56, 57, 58, 59, 60, 61] [(12, 4), (12, 6), (12, 12)] hr hr' ∧ FrN hc hc' ∧ FrN hr hr' ∧
      RP hc' hr' ∧ RC hc' hr' ∧ RPl hc' hr' ∧ RLg (B + 1) hc' hr' ∧ RCh hc' hr' ∧ (∀ q, q ≠ p → gt hr' 52 0 q = gt hr 52 0 q) ∧ (gt hr' 52 0 p = 2 ∨ gt hr' 52 0 p = 3) ∧
      gt hc' 3 0 5 = (if i0 < gt hc 3 0 5 then gt hc 3 0 5 - 1 else gt hc 3 0 5) ∧ ∀ k, 0 ≤ k → k < gt hc' 3 0 5 → gt hc' 29 0 k = if k < i0 then gt hc 29 0 k else gt hc 29 0 (k + 1) := by
  obtain ⟨r, hc1, hr1, m1, m2, m3, m4, m5, m6, m7, m8⟩ := m_meets (p := p) (w := 1) a1 a2 a7
  have b35 : gt hc1 3 0 5 = gt hc 3 0 5 := m4 3 5 (by decide) (by decide) 0
  have b29 : ∀ k, gt hc1 29 0 k = gt hc 29 0 k := fun k => m4 29 k (by decide) (by simp) 0
  have b60 : gt hc1 6 p 0 = p := (m4 6 0 (by decide) (by decide) p).trans p6
  have hz := zF_i
  obtain ⟨hc2, n1, n2, n3, n4, n5, n6⟩ := c_hold (p := p) (i0 := i0) p0 i00 zF 0 0 hc1 (Int.le_refl 0) (by omega) (by omega) (by omega) (by rw [if_pos i00]) (a1.fr m4 rfl) b60 (fun k q1 q2 => by rw [b29]; exact U k q1 (by omega))
  rw [b35] at n4
  have f2 : zFx [29, 36, 37, 38] [(3, 5), (7, 3)] hc hc2 := (m4.wk rfl rfl).tr (n2.wk rfl rfl)
  have g1 : zFx [54, 55, 56, 57] [(12, 6)] hr hr1 := m5
  have d1 : PIc hc2 := a1.fr f2 rfl
  have d2 : PIr hr1 := a2.fr g1 rfl
  have d5 : RP hc2 hr1 := a5.fr f2 rfl g1 rfl
  have d6 : RC hc2 hr1 := a6.fr f2 rfl g1 rfl
  have d7 : RPl hc2 hr1 := m8.fr n2 rfl (zFx.rf (l := []) (m := []) hr1) rfl
  have d8 : RLg B hc2 hr1 := a8.fr f2 rfl g1 rfl
  have d9 : RCh hc2 hr1 := a9.fr f2 rfl g1 rfl
  have s2 : gt hr1 52 0 p = 1 := (g1 52 p (by decide) (by simp) 0).trans st
  have p1' : p < gt hr1 12 0 0 := by rw [g1 12 0 (by decide) (by decide)]; exact p1
  have c6 : gt hc2 6 p 4 = cust := (f2 6 4 (by decide) (by decide) p).trans cu
  have e6 : gt hc2 6 p 0 = p := (f2 6 0 (by decide) (by decide) p).trans p6
  have room := RC.room d5 d6 p0 p1' s2
  have n60 : gt hr1 12 0 0 ≤ 60 := by rw [d5.1]; exact d5.2.2.1
  have p60 : p < 60 := by omega
  have cl0 := d6.2.1
  have cl1 := d6.1
  have cl60 : gt hc2 3 0 3 < 60 := by omega
  have cl61 : ¬ 60 ≤ gt hc2 3 0 3 := by omega
  have rcl : -2147483648 ≤ gt hc2 3 0 3 + 1 ∧ gt hc2 3 0 3 + 1 < 2147483648 := by omega
  have cents := (d5.2.2.2 p p0 (by rw [← d5.1]; exact p1')).2.1
  have fin : ∀ (hc3 hr3 : zH), PIc hc3 → PIr hr3 → zFx [28, 30] [(3, 3), (6, 3)] hc2 hc3 → zFx [52, 53, 58] [(12, 4)] hr1 hr3 → FrN hc2 hc3 → FrN hr1 hr3 → RP hc3 hr3 → RC hc3 hr3 → RCh hc3 hr3 → (∀ q, q ≠ p → gt hr3 52 0 q = gt hr1 52 0 q) → (gt hr3 52 0 p = 2 ∨ gt hr3 52 0 p = 3) →
      F_X3_takeBack 0 p how hc = F_X3_takeBack_45 0 p how r hc3 → F_X12_comesBack 0 p how cust hr = F_X12_comesBack_68 0 p how r hr3 →
      ∃ r hc' hr', F_X3_takeBack 0 p how hc = some (r, hc') ∧ F_X12_comesBack 0 p how cust hr = some (r, hr') ∧ (r = 0 ∨ r = 1) ∧ zFx [28, 29, 30, 31, 32, 33, 36, 37, 38] [(3, 3), (3, 5), (5, 3), (5, 4), (6, 3), (7, 3)] hc hc' ∧ zFx [52, 53, 54, 55, 56, 57, 58, 59, 60, 61] [(12, 4), (12, 6), (12, 12)] hr hr' ∧ FrN hc hc' ∧ FrN hr hr' ∧
      RP hc' hr' ∧ RC hc' hr' ∧ RPl hc' hr' ∧ RLg (B + 1) hc' hr' ∧ RCh hc' hr' ∧ (∀ q, q ≠ p → gt hr' 52 0 q = gt hr 52 0 q) ∧ (gt hr' 52 0 p = 2 ∨ gt hr' 52 0 p = 3) ∧
      gt hc' 3 0 5 = (if i0 < gt hc 3 0 5 then gt hc 3 0 5 - 1 else gt hc 3 0 5) ∧ ∀ k, 0 ≤ k → k < gt hc' 3 0 5 → gt hc' 29 0 k = if k < i0 then gt hc 29 0 k else gt hc 29 0 (k + 1) := fun hc3 hr3 t1 t2 tx ty tn un r5 r6 r9 so sp e1 e2 => by
    obtain ⟨hc4, hr4, v1, v2, v3, v4, v5, v6, v7⟩ := m_log (p := p) (how := how) (r := r) t1 t2 hB m3 (d8.fr tx rfl ty rfl)
    have e63 : gt hc3 6 p 0 = p := (tx 6 0 (by decide) (by decide) p).trans e6
    refine ⟨r, hc4, hr4, ?_, e2.trans v2, m3, ((f2.wk rfl rfl).tr (tx.wk rfl rfl)).tr (v3.wk rfl rfl), ((g1.wk rfl rfl).tr (ty.wk rfl rfl)).tr (v4.wk rfl rfl), ((m6.tr n3).tr tn).tr v5, (m7.tr un).tr v6, r5.fr v3 rfl v4 rfl, r6.fr v3 rfl v4 rfl, (d7.fr tx rfl ty rfl).fr v3 rfl v4 rfl, v7, r9.fr v3 rfl v4 rfl, fun q z => ?_, ?_, ?_, fun k q1 q2 => ?_⟩
    · rw [e1]
      unfold F_X3_takeBack_45
      rw [if_pos (by decide), if_pos p0, pc_3_8 t1, if_pos (by decide), e63, v1]
      simp [zb, m3]
    · rw [v4 52 q (by decide) (by simp) 0, so q z, g1 52 q (by decide) (by simp) 0]
    · rw [v4 52 p (by decide) (by simp) 0]; exact sp
    · rw [v3 3 5 (by decide) (by decide) 0, tx 3 5 (by decide) (by decide) 0, n4]
    · rw [v3 3 5 (by decide) (by decide) 0, tx 3 5 (by decide) (by decide) 0] at q2
      rw [v3 29 k (by decide) (by simp) 0, tx 29 k (by decide) (by simp) 0, n6 k q1 q2, b29, b29]
  have eh : F_X3_holdNoMore 0 p hc1 = some (0, hc2) := n1
  have ec : F_X3_takeBack 0 p how hc = (if r = 0 then zb (F_X3_toCleaning 0 p (pt hc2 6 p 3 2)) (fun r7 h7 => F_X3_takeBack_45 0 p how r h7) else zb (F_X3_charge 0 p (pt hc2 6 p 3 3)) (fun r8 h8 => F_X3_takeBack_45 0 p how r h8)) := by
    unfold F_X3_takeBack F_X3_takeBack_0
    rw [if_pos (by decide), if_pos p0, pc_3_7 a1, if_pos (by decide), p6, m1]
    simp only [zb, eh]
  rcases m3 with rfl | rfl
  · refine fin (pt (pt (pt hc2 6 p 3 2) 28 0 (gt hc2 3 0 3) p) 3 0 3 (gt hc2 3 0 3 + 1)) (pt (pt (pt hr1 52 0 p 2) 53 0 (gt hc2 3 0 3) p) 12 0 4 (gt hc2 3 0 3 + 1)) (d1.fr (((zFx.rf (l := [28]) (m := [(6, 3), (3, 3)]) hc2).p2 rfl).p1 rfl |>.p2 rfl) rfl) (d2.fr (((zFx.rf (l := [52, 53]) (m := [(12, 4)]) hr1).p1 rfl).p1 rfl |>.p2 rfl) rfl) ((((zFx.rf hc2).p2 rfl).p1 rfl).p2 rfl) ((((zFx.rf hr1).p1 rfl).p1 rfl).p2 rfl) (frpN (frpN (frpN (frrN hc2)))) (frpN (frpN (frpN (frrN hr1))))
      ((d5.st (p := p) (s := 2) (by decide)).fr (lc := [28]) (mc := [(3, 3)]) (lr := [53]) (mr := [(12, 4)]) (((zFx.rf _).p1 rfl).p2 rfl) rfl (((zFx.rf _).p1 rfl).p2 rfl) rfl)
      ?_ (d9.fr (lc := [28]) (mc := [(6, 3), (3, 3)]) (lr := [52, 53]) (mr := [(12, 4)]) ((((zFx.rf hc2).p2 rfl).p1 rfl).p2 rfl) rfl ((((zFx.rf hr1).p1 rfl).p1 rfl).p2 rfl) rfl) (fun q z => by simp [gt_pt, z]) (Or.inl (by simp [gt_pt])) ?_ ?_
    · refine (d6.st (p := p) (s := 2) s2).add p0 p1' (by simp [gt_pt]) room (fun i q1 q2 z => ?_)
      have z : gt hr1 53 0 i = p := z
      have := (d6.2.2.2.1 i q1 q2).2.2.2
      rw [z, s2] at this
      cases this
    · rw [ec, if_pos rfl]
      have : F_X3_toCleaning 0 p (pt hc2 6 p 3 2) = some (0, pt (pt (pt hc2 6 p 3 2) 28 0 (gt hc2 3 0 3) p) 3 0 3 (gt hc2 3 0 3 + 1)) := by
        unfold F_X3_toCleaning F_X3_toCleaning_0
        simp only [zl]
        simp [gt_pt, cl61, cl60, cl0, p0, pc_3_2 d1, e6, wI_eq rcl]
      rw [this]
      simp only [zb]
    · unfold F_X12_comesBack F_X12_comesBack_0
      rw [if_pos (by decide), m2]
      simp only [zb, zl]
      simp [pr_3 d2, pr_5 d2, p0, p60, gt_pt, cl1, cl0, cl60, wI_eq rcl]
  · refine fin (pt (pt hc2 6 p 3 3) 30 0 cust (wL (gt hr1 58 0 cust + gt hr1 51 0 p))) (pt (pt hr1 52 0 p 3) 58 0 cust (wL (gt hr1 58 0 cust + gt hr1 51 0 p))) (d1.fr ((zFx.rf (l := [30]) (m := [(6, 3)]) hc2).p2 rfl |>.p1 rfl) rfl) (d2.fr ((zFx.rf (l := [52, 58]) (m := []) hr1).p1 rfl |>.p1 rfl) rfl) (((zFx.rf hc2).p2 rfl).p1 rfl) (((zFx.rf hr1).p1 rfl).p1 rfl) (frpN (frpN (frrN hc2))) (frpN (frpN (frrN hr1)))
      ((d5.st (p := p) (s := 3) (by decide)).fr (lc := [30]) (mc := []) (lr := [58]) (mr := []) ((zFx.rf _).p1 rfl) rfl ((zFx.rf _).p1 rfl) rfl)
      ((d6.st (p := p) (s := 3) s2).fr (lc := [30]) (mc := []) (lr := [58]) (mr := []) ((zFx.rf _).p1 rfl) rfl ((zFx.rf _).p1 rfl) rfl)
      (RCh.add (d9.fr (lc := []) (mc := [(6, 3)]) (lr := [52]) (mr := []) ((zFx.rf hc2).p2 rfl) rfl ((zFx.rf hr1).p1 rfl) rfl)) (fun q z => by simp [gt_pt, z]) (Or.inr (by simp [gt_pt])) ?_ ?_
    · rw [ec, if_neg (by decide)]
      have e30 : gt hc2 30 0 cust = gt hr1 58 0 cust := d9 cust cu0.1 cu0.2
      have : F_X3_charge 0 p (pt hc2 6 p 3 3) = some (0, pt (pt hc2 6 p 3 3) 30 0 cust (wL (gt hr1 58 0 cust + gt hr1 51 0 p))) := by
        have q1 : ¬ cust < 0 := by omega
        have q2 : ¬ 8 ≤ cust := by omega
        unfold F_X3_charge F_X3_charge_0
        simp [gt_pt, p0, c6, q1, q2, cu0, pc_3_6 d1, e30, cents]
      rw [this]
      simp only [zb]
    · unfold F_X12_comesBack F_X12_comesBack_0
      rw [if_pos (by decide), m2]
      simp only [zb, zl]
      simp [pr_3 d2, pr_11 d2, pr_2 d2, p0, p60, gt_pt, cu0]
