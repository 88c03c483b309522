theorem m_meets {p w : Int} {hc hr : zH} (a1 : PIc hc) (a2 : PIr hr) (k : RPl hc hr) : ∃ r hc' hr', F_X7_meets 0 p w hc = some (r, hc') ∧ F_X12_meets 0 p w hr = some (r, hr') ∧ (r = 0 ∨ r = 1) ∧ zFx [36, 37, 38] [(7, 3)] hc hc' ∧ zFx [54, 55, 56, 57] [(12, 6)] hr hr' ∧ FrN hc hc' ∧ FrN hr hr' ∧ RPl hc' hr' := by
  obtain ⟨k1, k2, k3, k4⟩ := k
  have hz := zF_i
  obtain ⟨r, hc', hr', w1, w2, w3, w4, w5, w6, w7, w8, w9, w10, w11⟩ := m_loop (p := p) (w := w) k3 zF 0 0 hc hr (Int.le_refl 0) (Int.le_refl 0) k2 (by omega) a1 a2 k1 (fun i q1 q2 => k4 i q1 q2) (fun i q1 q2 => by omega)
  refine ⟨r, hc', hr', ?_, w2, w3, w4, w5, w6, w7, w8, w9, Int.le_trans w10 k3, w11⟩
  unfold F_X7_meets F_X7_meets_0
  rw [if_pos (by decide)]
  exact w1
/-- a PART is held no more: it stood at i0 (or nowhere, and i0 is behind all) -/
theorem c_hold {p i0 : Int} (p0 : 0 ≤ p) (i00 : 0 ≤ i0) : ∀ (n : Nat) (l2 l3 : Int) (h : zH), 0 ≤ l3 → l3 ≤ gt h 3 0 5 → gt h 3 0 5 ≤ 60 → gt h 3 0 5 - l3 < n → l2 = (if l3 ≤ i0 then l3 else l3 - 1) → PIc h → gt h 6 p 0 = p → (∀ k, l3 ≤ k → k < gt h 3 0 5 → (gt h 29 0 k = p ↔ k = i0)) →
    ∃ h', F_X3_holdNoMore_4 n 0 p l2 l3 h = some (0, h') ∧ zFx [29] [(3, 5)] h h' ∧ FrN h h' ∧ gt h' 3 0 5 = (if i0 < gt h 3 0 5 then gt h 3 0 5 - 1 else gt h 3 0 5) ∧ (∀ k, k < l2 → gt h' 29 0 k = gt h 29 0 k) ∧ ∀ k, l2 ≤ k → k < gt h' 3 0 5 → gt h' 29 0 k = if k < i0 then gt h 29 0 k else gt h 29 0 (k + 1)
  | 0, l2, l3, h, h0, h1, h2, hf, _, _, _, _ => by omega
  | n + 1, l2, l3, h, h0, h1, h2, hf, e2, a1, p6, U => by
    show ∃ h', F_X3_holdNoMore_4b (F_X3_holdNoMore_4 n) 0 p l2 l3 h = _ ∧ _
    have hf' : gt h 3 0 5 - (l3 + 1) < n := by omega
    unfold F_X3_holdNoMore_4b
    by_cases c : gt h 3 0 5 ≤ l3
    · rw [if_pos (by decide), if_pos c]
      have el : l2 = if i0 < gt h 3 0 5 then gt h 3 0 5 - 1 else gt h 3 0 5 := by
        rw [e2, show l3 = gt h 3 0 5 by omega]
        by_cases q : i0 < gt h 3 0 5
        · rw [if_neg (by omega), if_pos q]
        · rw [if_pos (by omega), if_neg q]
      refine ⟨_, rfl, (zFx.rf h).p2 rfl, frpN (frrN h), ?_, fun k _ => rfl, fun k q1 q2 => ?_⟩
      · rw [← el]; rfl
      · have q2 : k < l2 := q2
        omega
    · have r3 : -2147483648 ≤ l3 + 1 ∧ l3 + 1 < 2147483648 := by omega
      have b2 : 0 ≤ l2 ∧ l2 < 60 ∧ l2 ≤ l3 := by rw [e2]; split <;> omega
      have r2 : -2147483648 ≤ l2 + 1 ∧ l2 + 1 < 2147483648 := by omega
      have u := U l3 (Int.le_refl l3) (by omega)
      rw [if_pos (by decide), if_neg c, pc_3_4 a1, if_pos (by decide), if_pos (by omega), if_pos p0, p6, wI_eq r3]
      by_cases d : l3 = i0
      · rw [if_pos (u.mpr d)]
        have e2' : l2 = if l3 + 1 ≤ i0 then l3 + 1 else l3 + 1 - 1 := by
          rw [e2, if_pos (by omega), if_neg (by omega)]; omega
        exact c_hold p0 i00 n l2 (l3 + 1) h (by omega) (by omega) h2 hf' e2' a1 p6 (fun k q1 q2 => U k (by omega) q2)
      · rw [if_neg fun z => d (u.mp z), if_pos ⟨b2.1, b2.2.1⟩, wI_eq r2]
        have e2' : l2 + 1 = if l3 + 1 ≤ i0 then l3 + 1 else l3 + 1 - 1 := by
          rw [e2]
          by_cases q : l3 ≤ i0
          · rw [if_pos q, if_pos (by omega)]
          · rw [if_neg q, if_neg (by omega)]; omega
        have xx : zFx [29] [(3, 5)] h (pt h 29 0 l2 (gt h 29 0 l3)) := (zFx.rf h).p1 rfl
        have o : ∀ k, k ≠ l2 → gt (pt h 29 0 l2 (gt h 29 0 l3)) 29 0 k = gt h 29 0 k := fun k z => by simp [gt_pt, z]
        have ol : gt (pt h 29 0 l2 (gt h 29 0 l3)) 29 0 l2 = gt h 29 0 l3 := by simp [gt_pt]
        obtain ⟨h', w1, w2, w3, w4, w5, w6⟩ := c_hold p0 i00 n (l2 + 1) (l3 + 1) (pt h 29 0 l2 (gt h 29 0 l3)) (by omega) (show l3 + 1 ≤ gt h 3 0 5 by omega) h2 hf' e2' (a1.fr xx rfl) p6 (fun k q1 q2 => by
          rw [o k (by omega)]
          exact U k (by omega) q2)
        refine ⟨h', w1, xx.tr w2, (frpN (frrN h)).tr w3, w4, fun k q => ?_, fun k q1 q2 => ?_⟩
        · rw [w5 k (by omega), o k (by omega)]
        · by_cases z : k = l2
          · rw [z, w5 l2 (by omega), ol]
            by_cases q : l3 ≤ i0
            · rw [if_pos q] at e2
              rw [if_pos (by omega), e2]
            · rw [if_neg q] at e2
              rw [if_neg (by omega), show l2 + 1 = l3 by omega]
          · rw [w6 k (by omega) q2, o k z, o (k + 1) (by omega)]
theorem zSum_le {f : Int → Int} (h : ∀ j, f j ≤ 1) : ∀ n : Nat, zSum f n ≤ n
  | 0 => Int.le_refl 0
  | n + 1 => by
    have ih := zSum_le h n
    have := h n
    have e : zSum f (n + 1) = zSum f n + f n := rfl
    rw [e]; omega
theorem zSum_1 : ∀ n : Nat, zSum (fun _ => 1) n = n
  | 0 => rfl
  | n + 1 => by
    have e : zSum (fun _ => 1) (n + 1) = zSum (fun _ => 1) n + 1 := rfl
    rw [e, zSum_1 n]; omega
/-- so many different places there are -/
theorem zPig {lp : Int → Int} {m n : Nat} (h : ∀ i : Int, 0 ≤ i → i < m → 0 ≤ lp i ∧ lp i < n) (k : ∀ i j : Int, 0 ≤ i → i < j → j < m → lp i ≠ lp j) : m ≤ n := by
  classical
  have e := zSum_in (g := fun _ => 1) (lp := lp) m (fun q => if ∃ i : Int, 0 ≤ i ∧ i < m ∧ lp i = q then 1 else 0) n (fun i a b => ⟨(h i a b).1, (h i a b).2, if_pos ⟨i, a, b, rfl⟩⟩) k (fun p a b c => if_neg fun ⟨i, x, y, z⟩ => c i x y z)
  rw [zSum_1] at e
  have := zSum_le (f := fun q => if ∃ i : Int, 0 ≤ i ∧ i < m ∧ lp i = q then 1 else 0) (fun j => by split <;> decide) n
  rw [e] at this
  omega
theorem m_log {B p how r : Int} {hc hr : zH} (a1 : PIc hc) (a2 : PIr hr) (hB : B ≤ 1000000) (hr01 : r = 0 ∨ r = 1) (k : RLg B hc hr) : ∃ hc' hr', F_X5_add 0 p how r hc = some (0, hc') ∧ F_X12_comesBack_68 0 p how r hr = some (r, hr') ∧ zFx [31, 32, 33] [(5, 3), (5, 4)] hc hc' ∧ zFx [59, 60, 61] [(12, 12)] hr hr' ∧ FrN hc hc' ∧ FrN hr hr' ∧ RLg (B + 1) hc' hr' := by
  obtain ⟨k1, k2, k3, k4, k5⟩ := k
  obtain ⟨at', ha⟩ : ∃ x, x = gt hr 12 0 12 % 60 := ⟨_, rfl⟩
  have a60 : 0 ≤ at' ∧ at' < 60 := by omega
  have c60 : gt hc 5 0 3 ≤ 60 := by rw [k3]; split <;> omega
  have rl : -2147483648 ≤ gt hr 12 0 12 + 1 ∧ gt hr 12 0 12 + 1 < 2147483648 := by omega
  have rc : -2147483648 ≤ gt hc 5 0 3 + 1 ∧ gt hc 5 0 3 + 1 < 2147483648 := by rw [k3]; split <;> omega
  have ra : -2147483648 ≤ gt hc 5 0 4 + 1 ∧ gt hc 5 0 4 + 1 < 2147483648 := by omega
  have rt : -2147483648 ≤ at' ∧ at' < 2147483648 := by omega
  have hl : ¬ 59 ≤ gt hc 5 0 4 → gt hc 5 0 4 + 1 = at' := by omega
  have hl2 : 59 ≤ gt hc 5 0 4 → at' = 0 := by omega
  obtain ⟨X, hX⟩ : ∃ X, X = pt (pt (pt (pt hc 5 0 4 at') 31 0 at' p) 32 0 at' how) 33 0 at' r := ⟨_, rfl⟩
  obtain ⟨Y, hY⟩ : ∃ Y, Y = pt (pt (pt (pt hr 59 0 at' p) 60 0 at' how) 61 0 at' r) 12 0 12 (gt hr 12 0 12 + 1) := ⟨_, rfl⟩
  have eY : F_X12_comesBack_68 0 p how r hr = some (r, Y) := by
    rw [hY]
    unfold F_X12_comesBack_68
    simp only [zl, ← ha]
    rcases hr01 with rfl | rfl
    · simp [k1, a60, pr_13 a2, pr_14 a2, pr_15 a2, gt_pt, wI_eq rl]
    · simp [k1, a60, pr_13 a2, pr_14 a2, pr_15 a2, gt_pt, wI_eq rl]
  have eX : F_X5_add 0 p how r hc = some (0, if 60 ≤ gt hc 5 0 3 then X else pt X 5 0 3 (gt hc 5 0 3 + 1)) := by
    rw [hX]
    unfold F_X5_add F_X5_add_0
    simp only [zl]
    by_cases q : 59 ≤ gt hc 5 0 4
    · have := hl2 q
      subst this
      by_cases c : 60 ≤ gt hc 5 0 3
      · rcases hr01 with rfl | rfl
        · simp [q, pc_5_0 a1, pc_5_1 a1, pc_5_2 a1, gt_pt, c]
        · simp [q, pc_5_0 a1, pc_5_1 a1, pc_5_2 a1, gt_pt, c]
      · rcases hr01 with rfl | rfl
        · simp [q, pc_5_0 a1, pc_5_1 a1, pc_5_2 a1, gt_pt, c, wI_eq rc]
        · simp [q, pc_5_0 a1, pc_5_1 a1, pc_5_2 a1, gt_pt, c, wI_eq rc]
    · have := hl q
      by_cases c : 60 ≤ gt hc 5 0 3
      · rcases hr01 with rfl | rfl
        · simp [q, pc_5_0 a1, pc_5_1 a1, pc_5_2 a1, gt_pt, c, wI_eq rt, this, a60]
        · simp [q, pc_5_0 a1, pc_5_1 a1, pc_5_2 a1, gt_pt, c, wI_eq rt, this, a60]
      · rcases hr01 with rfl | rfl
        · simp [q, pc_5_0 a1, pc_5_1 a1, pc_5_2 a1, gt_pt, c, wI_eq rt, wI_eq rc, this, a60]
        · simp [q, pc_5_0 a1, pc_5_1 a1, pc_5_2 a1, gt_pt, c, wI_eq rt, wI_eq rc, this, a60]
  have xx : zFx [31, 32, 33] [(5, 3), (5, 4)] hc X := by rw [hX]; exact ((((zFx.rf hc).p2 rfl).p1 rfl).p1 rfl).p1 rfl
  have xn : FrN hc X := by rw [hX]; exact frpN (frpN (frpN (frpN (frrN hc))))
  have yy : zFx [59, 60, 61] [(12, 12)] hr Y := by rw [hY]; exact ((((zFx.rf hr).p1 rfl).p1 rfl).p1 rfl).p2 rfl
  have yn : FrN hr Y := by rw [hY]; exact frpN (frpN (frpN (frpN (frrN hr))))
  have v : ∀ i : Int, gt X 31 0 i = (if i = at' then p else gt hc 31 0 i) ∧ gt X 32 0 i = (if i = at' then how else gt hc 32 0 i) ∧ gt X 33 0 i = (if i = at' then r else gt hc 33 0 i) ∧ gt Y 59 0 i = (if i = at' then p else gt hr 59 0 i) ∧ gt Y 60 0 i = (if i = at' then how else gt hr 60 0 i) ∧ gt Y 61 0 i = (if i = at' then r else gt hr 61 0 i) := fun i => by
    rw [hX, hY]
    by_cases z : i = at' <;> simp [gt_pt, z]
  have x5 : gt X 5 0 3 = gt hc 5 0 3 ∧ gt X 5 0 4 = at' ∧ gt Y 12 0 12 = gt hr 12 0 12 + 1 := by rw [hX, hY]; exact ⟨rfl, rfl, rfl⟩
  clear hX hY
  have main : ∀ Z : zH, gt Z 31 = gt X 31 → gt Z 32 = gt X 32 → gt Z 33 = gt X 33 → gt Z 5 0 4 = at' → gt Z 5 0 3 = (if gt hr 12 0 12 + 1 < 60 then gt hr 12 0 12 + 1 else 60) → RLg (B + 1) Z Y := fun Z z1 z2 z3 z4 z5 => by
    unfold RLg
    rw [z1, z2, z3, z4, x5.2.2]
    clear z1 z2 z3 z4 eX eY xx xn yy yn x5 hl hl2
    refine ⟨by omega, by omega, z5, by omega, fun i q1 q2 => ?_⟩
    obtain ⟨v1, v2, v3, v4, v5, v6⟩ := v i
    rw [v1, v2, v3, v4, v5, v6]
    by_cases z : i = at'
    · simp [z]
    · simp only [if_neg z]
      refine k5 i q1 ?_
      rw [z5] at q2
      rw [k3]
      clear v v1 v2 v3 v4 v5 v6 k5 z5
      split at q2 <;> split <;> omega
  by_cases c : 60 ≤ gt hc 5 0 3
  · rw [if_pos c] at eX
    refine ⟨X, Y, eX, eY, xx, yy, xn, yn, main X rfl rfl rfl x5.2.1 ?_⟩
    rw [x5.1, k3]
    rw [k3] at c
    clear main v eX eY k5
    split at c <;> split <;> omega
  · rw [if_neg c] at eX
    refine ⟨_, Y, eX, eY, xx.p2 rfl, yy, frpN xn, yn, main _ rfl rfl rfl x5.2.1 ?_⟩
    show gt hc 5 0 3 + 1 = _
    rw [k3] at c ⊢
    clear main v eX eY k5
    split at c <;> split <;> omega
