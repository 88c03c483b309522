theorem r_102 {ag : Int → Int → Int → zH → zO} {l2 l3 : Int} (c0 : 0 ≤ l3) (c1 : l3 < 59) : ∀ (n : Nat) (l4 : Int) (h : zH), 0 ≤ l4 → l4 ≤ 20 → 20 - l4 < n → PIr h →
    ∃ h', F_X12_giveBack__102 ag n 0 l2 l3 l4 h = ag 0 l2 (l3 + 1) h' ∧ zFx [92] [] h h' ∧ FrN h h' ∧ ∀ x, gt h' 92 0 x = if 20 * l3 + l4 ≤ x ∧ x < 20 * l3 + 20 then gt h 92 0 (x + 20) else gt h 92 0 x
  | 0, l4, h, h0, h1, hf, _ => by omega
  | n + 1, l4, h, h0, h1, hf, hp => by
    show ∃ h', F_X12_giveBack__102b ag (F_X12_giveBack__102 ag n) 0 l2 l3 l4 h = _ ∧ _
    unfold F_X12_giveBack__102b
    have r1 : -2147483648 ≤ l3 + 1 ∧ l3 + 1 < 2147483648 := by omega
    by_cases c : 20 ≤ l4
    · rw [if_pos c, wI_eq r1]
      exact ⟨h, rfl, zFx.rf h, frrN h, fun x => by rw [if_neg (by omega)]⟩
    · have r2 : -2147483648 ≤ 20 * l3 ∧ 20 * l3 < 2147483648 := by omega
      have r3 : -2147483648 ≤ 20 * l3 + 20 ∧ 20 * l3 + 20 < 2147483648 := by omega
      have r4 : -2147483648 ≤ 20 * l3 + 20 + l4 ∧ 20 * l3 + 20 + l4 < 2147483648 := by omega
      have r5 : -2147483648 ≤ 20 * l3 + l4 ∧ 20 * l3 + l4 < 2147483648 := by omega
      have r6 : -2147483648 ≤ l4 + 1 ∧ l4 + 1 < 2147483648 := by omega
      have b1 : 0 ≤ 20 * l3 + 20 + l4 ∧ 20 * l3 + 20 + l4 < 1200 := by omega
      have b2 : 0 ≤ 20 * l3 + l4 ∧ 20 * l3 + l4 < 1200 := by omega
      have hf' : 20 - (l4 + 1) < n := by omega
      rw [if_neg c, if_pos (by decide), pr_66 hp, if_pos (by decide), wI_eq r2, wI_eq r3, wI_eq r4, if_pos b1, wI_eq r5, if_pos b2, wI_eq r6]
      have xx : zFx [92] [] h (pt h 92 0 (20 * l3 + l4) (gt h 92 0 (20 * l3 + 20 + l4))) := (zFx.rf h).p1 rfl
      obtain ⟨h', w1, w2, w3, w4⟩ := r_102 (ag := ag) (l2 := l2) c0 c1 n (l4 + 1) (pt h 92 0 (20 * l3 + l4) (gt h 92 0 (20 * l3 + 20 + l4))) (by omega) (by omega) hf' (hp.fr xx rfl)
      have o : ∀ x, gt (pt h 92 0 (20 * l3 + l4) (gt h 92 0 (20 * l3 + 20 + l4))) 92 0 x = if x = 20 * l3 + l4 then gt h 92 0 (20 * l3 + 20 + l4) else gt h 92 0 x := fun x => by
        by_cases z : x = 20 * l3 + l4 <;> simp [gt_pt, z]
      refine ⟨h', w1, xx.tr w2, (frpN (frrN h)).tr w3, fun x => ?_⟩
      rw [w4 x]
      by_cases z : x = 20 * l3 + l4
      · rw [if_neg (by omega), o, if_pos z, if_pos (by omega), show x + 20 = 20 * l3 + 20 + l4 by omega]
      · by_cases y : 20 * l3 + (l4 + 1) ≤ x ∧ x < 20 * l3 + 20
        · rw [if_pos y, if_pos (by omega), o, if_neg (by omega)]
        · rw [if_neg y, if_neg (by omega), o, if_neg z]
theorem r_49 {l2 : Int} : ∀ (n : Nat) (l3 : Int) (h : zH), 0 ≤ l3 → l3 ≤ gt h 12 0 62 → gt h 12 0 62 ≤ 59 → gt h 12 0 62 - l3 < n → PIr h →
    ∃ h', F_X12_giveBack__49 n 0 l2 l3 h = some (if l2 = 0 then 1 else 0, h') ∧ zFx [89, 90, 91, 92] [] h h' ∧ FrN h h' ∧ (∀ k, gt h' 89 0 k = (if l3 ≤ k ∧ k < gt h 12 0 62 then gt h 89 0 (k + 1) else gt h 89 0 k) ∧ gt h' 90 0 k = (if l3 ≤ k ∧ k < gt h 12 0 62 then gt h 90 0 (k + 1) else gt h 90 0 k) ∧ gt h' 91 0 k = (if l3 ≤ k ∧ k < gt h 12 0 62 then gt h 91 0 (k + 1) else gt h 91 0 k)) ∧ ∀ x, gt h' 92 0 x = if 20 * l3 ≤ x ∧ x < 20 * gt h 12 0 62 then gt h 92 0 (x + 20) else gt h 92 0 x
  | 0, l3, h, h0, h1, h2, hf, _ => by omega
  | n + 1, l3, h, h0, h1, h2, hf, hp => by
    show ∃ h', F_X12_giveBack__49b (F_X12_giveBack__49 n) 0 l2 l3 h = _ ∧ _
    by_cases c : gt h 12 0 62 ≤ l3
    · refine ⟨h, ?_, zFx.rf h, frrN h, fun k => ?_, fun x => ?_⟩
      · unfold F_X12_giveBack__49b
        rw [if_pos (by decide), if_pos c]
        split <;> rfl
      · have : ¬ (l3 ≤ k ∧ k < gt h 12 0 62) := by omega
        rw [if_neg this, if_neg this, if_neg this]
        exact ⟨rfl, rfl, rfl⟩
      · rw [if_neg (by omega)]
    · have r1 : -2147483648 ≤ l3 + 1 ∧ l3 + 1 < 2147483648 := by omega
      have b1 : 0 ≤ l3 + 1 ∧ l3 + 1 < 60 := by omega
      have b2 : 0 ≤ l3 ∧ l3 < 60 := by omega
      have hf' : gt h 12 0 62 - (l3 + 1) < n := by omega
      have hz := zF_i
      obtain ⟨Y, hY⟩ : ∃ Y, Y = pt (pt (pt h 89 0 l3 (gt h 89 0 (l3 + 1))) 90 0 l3 (gt h 90 0 (l3 + 1))) 91 0 l3 (gt h 91 0 (l3 + 1)) := ⟨_, rfl⟩
      have e : F_X12_giveBack__49b (F_X12_giveBack__49 n) 0 l2 l3 h = F_X12_giveBack__102 (F_X12_giveBack__49 n) zF 0 l2 l3 0 Y := by
        rw [hY]
        unfold F_X12_giveBack__49b
        simp only [zl]
        simp [c, pr_63 hp, pr_64 hp, pr_65 hp, b1, b2, wI_eq r1, gt_pt]
      have yx : zFx [89, 90, 91, 92] [] h Y := by rw [hY]; exact (((zFx.rf h).p1 rfl).p1 rfl).p1 rfl
      have yn : FrN h Y := by rw [hY]; exact frpN (frpN (frpN (frrN h)))
      have y62 : gt Y 12 0 62 = gt h 12 0 62 := by rw [hY]; rfl
      have y92 : gt Y 92 = gt h 92 := by rw [hY]; rfl
      have yo : ∀ k, gt Y 89 0 k = (if k = l3 then gt h 89 0 (l3 + 1) else gt h 89 0 k) ∧ gt Y 90 0 k = (if k = l3 then gt h 90 0 (l3 + 1) else gt h 90 0 k) ∧ gt Y 91 0 k = (if k = l3 then gt h 91 0 (l3 + 1) else gt h 91 0 k) := fun k => by
        rw [hY]
        by_cases z : k = l3 <;> simp [gt_pt, z]
      clear hY
      obtain ⟨Z, z1, z2, z3, z4⟩ := r_102 (ag := F_X12_giveBack__49 n) (l2 := l2) h0 (by omega) zF 0 Y (Int.le_refl 0) (by decide) (by omega) (hp.fr yx rfl)
      have t62 : gt Z 12 0 62 = gt h 12 0 62 := (z2 12 62 (by decide) (by simp) 0).trans y62
      have tx : zFx [89, 90, 91, 92] [] h Z := yx.tr (z2.wk rfl rfl)
      obtain ⟨h', w1, w2, w3, w4, w5⟩ := r_49 (l2 := l2) n (l3 + 1) Z (by omega) (by omega) (by omega) (by omega) (hp.fr tx rfl)
      rw [e, z1]
      rw [t62] at w4 w5
      have q89 : ∀ k, gt Z 89 0 k = gt Y 89 0 k ∧ gt Z 90 0 k = gt Y 90 0 k ∧ gt Z 91 0 k = gt Y 91 0 k := fun k => ⟨z2 89 k (by decide) (by simp) 0, z2 90 k (by decide) (by simp) 0, z2 91 k (by decide) (by simp) 0⟩
      refine ⟨h', w1, tx.tr w2, (yn.tr z3).tr w3, fun k => ?_, fun x => ?_⟩
      · obtain ⟨v1, v2, v3⟩ := w4 k
        rw [v1, v2, v3, (q89 k).1, (q89 k).2.1, (q89 k).2.2, (q89 (k + 1)).1, (q89 (k + 1)).2.1, (q89 (k + 1)).2.2, (yo k).1, (yo k).2.1, (yo k).2.2, (yo (k + 1)).1, (yo (k + 1)).2.1, (yo (k + 1)).2.2]
        clear w1 w2 w3 w4 w5 v1 v2 v3 q89 yo z1 z2 z3 z4 tx yx yn e
        by_cases z : k = l3
        · have d1 : ¬ (l3 + 1 ≤ k ∧ k < gt h 12 0 62) := by omega
          have d2 : l3 ≤ k ∧ k < gt h 12 0 62 := by omega
          simp only [if_neg d1, if_pos d2, if_pos z]
          rw [z]; exact ⟨rfl, rfl, rfl⟩
        · by_cases y : l3 + 1 ≤ k ∧ k < gt h 12 0 62
          · have d2 : l3 ≤ k ∧ k < gt h 12 0 62 := by omega
            have d3 : ¬ k + 1 = l3 := by omega
            simp only [if_pos y, if_pos d2, if_neg d3]
            exact ⟨trivial, trivial, trivial⟩
          · have d2 : ¬ (l3 ≤ k ∧ k < gt h 12 0 62) := by omega
            simp only [if_neg y, if_neg d2, if_neg z]
            exact ⟨trivial, trivial, trivial⟩
      · rw [w5 x, z4 x, z4 (x + 20), y92]
        clear w1 w2 w3 w4 w5 q89 yo z1 z2 z3 z4 tx yx yn e
        by_cases z : 20 * l3 ≤ x ∧ x < 20 * l3 + 20
        · rw [if_neg (by omega), if_pos (by omega), if_pos (by omega)]
        · by_cases y : 20 * (l3 + 1) ≤ x ∧ x < 20 * gt h 12 0 62
          · rw [if_pos y, if_neg (by omega), if_pos (by omega)]
          · rw [if_neg y, if_neg (by omega), if_neg (by omega)]
