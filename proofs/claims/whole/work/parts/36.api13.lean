/-- a PLAN on both sides -/
def PR (hc hr : zH) (i : Int) : Prop := gt hc 36 0 i = gt hr 54 0 i ∧ gt hc 38 0 i = gt hr 56 0 i ∧ gt hc 37 0 i = gt hr 55 0 i - gt hr 57 0 i ∧ 0 < gt hc 37 0 i ∧ gt hr 55 0 i ≤ 20 ∧ 0 ≤ gt hr 57 0 i
theorem PR.ci {hc hr hc' hr' : zH} {i : Int} (k : PR hc hr i) (e1 : gt hc' 36 0 i = gt hc 36 0 i) (e2 : gt hc' 37 0 i = gt hc 37 0 i) (e3 : gt hc' 38 0 i = gt hc 38 0 i) (e4 : gt hr' 54 0 i = gt hr 54 0 i) (e5 : gt hr' 55 0 i = gt hr 55 0 i) (e6 : gt hr' 56 0 i = gt hr 56 0 i) (e7 : gt hr' 57 0 i = gt hr 57 0 i) : PR hc' hr' i := by
  unfold PR
  rw [e1, e2, e3, e4, e5, e6, e7]
  exact k
theorem m_loop {p w n : Int} (n30 : n ≤ 30) : ∀ (f : Nat) (l3 l5 : Int) (hc hr : zH), 0 ≤ l3 → l3 ≤ l5 → l5 ≤ n → n - l5 < f → PIc hc → PIr hr → gt hr 12 0 6 = n → (∀ i, l5 ≤ i → i < n → PR hc hr i) → (∀ i, 0 ≤ i → i < l3 → PR hc hr i) →
    ∃ r hc' hr', F_X7_meets_11 f 0 p w l3 n l5 hc = some (r, hc') ∧ F_X12_meets_5 f 0 p w l3 l5 hr = some (r, hr') ∧ (r = 0 ∨ r = 1) ∧ zFx [36, 37, 38] [(7, 3)] hc hc' ∧ zFx [54, 55, 56, 57] [(12, 6)] hr hr' ∧ FrN hc hc' ∧ FrN hr hr' ∧
      gt hr' 12 0 6 = gt hc' 7 0 3 ∧ 0 ≤ gt hc' 7 0 3 ∧ gt hc' 7 0 3 ≤ n ∧ ∀ i, 0 ≤ i → i < gt hc' 7 0 3 → PR hc' hr' i
  | 0, l3, l5, hc, hr, h0, h1, h2, hf, _, _, _, _, _ => by omega
  | f + 1, l3, l5, hc, hr, h0, h1, h2, hf, a1, a2, hn, U, V => by
    show ∃ r hc' hr', F_X7_meets_11b (F_X7_meets_11 f) 0 p w l3 n l5 hc = some (r, hc') ∧ F_X12_meets_5b (F_X12_meets_5 f) 0 p w l3 l5 hr = some (r, hr') ∧ _
    have hf' : n - (l5 + 1) < f := by omega
    by_cases c : n ≤ l5
    · refine ⟨if n ≤ l3 then 0 else 1, pt hc 7 0 3 l3, pt hr 12 0 6 l3, ?_, ?_, by split <;> simp, (zFx.rf hc).p2 rfl, (zFx.rf hr).p2 rfl, frpN (frrN hc), frpN (frrN hr), rfl, h0, Int.le_trans h1 h2, fun i q1 q2 => V i q1 q2⟩
      · unfold F_X7_meets_11b
        rw [if_pos c, if_pos (by decide)]
        split <;> rfl
      · unfold F_X12_meets_5b
        rw [if_pos (by decide), hn, if_pos c]
        split <;> rfl
    · obtain ⟨u1, u2, u3, u4, u5, u6⟩ := U l5 (Int.le_refl l5) (by omega)
      have b5 : 0 ≤ l5 ∧ l5 < 30 := by omega
      have b3 : 0 ≤ l3 ∧ l3 < 30 := by omega
      have r5 : -2147483648 ≤ l5 + 1 ∧ l5 + 1 < 2147483648 := by omega
      have r3 : -2147483648 ≤ l3 + 1 ∧ l3 + 1 < 2147483648 := by omega
      have r7 : -2147483648 ≤ gt hc 37 0 l5 - 1 ∧ gt hc 37 0 l5 - 1 < 2147483648 := by omega
      have r8 : -2147483648 ≤ gt hr 57 0 l5 + 1 ∧ gt hr 57 0 l5 + 1 < 2147483648 := by omega
      have np : ¬ gt hc 37 0 l5 ≤ 0 := by omega
      have l35 : l3 = l5 ∨ l3 < l5 := by omega
      have key : ∀ (hc1 : zH) (a : Int) (Y : zH), PIc hc1 → zFx [36, 37, 38] [(7, 3)] hc hc1 → FrN hc hc1 → (∀ i, i ≠ l5 → gt hc1 37 0 i = gt hc 37 0 i) → gt hc1 36 = gt hc 36 → gt hc1 38 = gt hc 38 → gt hc1 37 0 l5 = gt hr 55 0 l5 - a → 0 < gt hc1 37 0 l5 → 0 ≤ a →
          Y = pt (pt (pt (pt hr 54 0 l3 (gt hr 54 0 l5)) 55 0 l3 (gt hr 55 0 l5)) 56 0 l3 (gt hr 56 0 l5)) 57 0 l3 a →
          ∃ r hc' hr', F_X7_meets_51 (F_X7_meets_11 f) 0 p w l3 n l5 hc1 = some (r, hc') ∧ F_X12_meets_5 f 0 p w (l3 + 1) (l5 + 1) Y = some (r, hr') ∧ (r = 0 ∨ r = 1) ∧ zFx [36, 37, 38] [(7, 3)] hc hc' ∧ zFx [54, 55, 56, 57] [(12, 6)] hr hr' ∧ FrN hc hc' ∧ FrN hr hr' ∧
            gt hr' 12 0 6 = gt hc' 7 0 3 ∧ 0 ≤ gt hc' 7 0 3 ∧ gt hc' 7 0 3 ≤ n ∧ ∀ i, 0 ≤ i → i < gt hc' 7 0 3 → PR hc' hr' i := fun hc1 a Y b1 bx bn b37 b36 b38 bl bp ba hY => by
        have e : F_X7_meets_51 (F_X7_meets_11 f) 0 p w l3 n l5 hc1 = F_X7_meets_11 f 0 p w (l3 + 1) n (l5 + 1) (pt (pt (pt hc1 36 0 l3 (gt hc1 36 0 l5)) 37 0 l3 (gt hc1 37 0 l5)) 38 0 l3 (gt hc1 38 0 l5)) := by
          have np1 : ¬ gt hc1 37 0 l5 ≤ 0 := by omega
          unfold F_X7_meets_51
          simp only [zl]
          simp [pc_7_0 b1, pc_7_1 b1, pc_7_2 b1, b5, b3, np1, gt_pt, wI_eq r5, wI_eq r3]
        rw [e]
        have yx : zFx [54, 55, 56, 57] [(12, 6)] hr Y := by rw [hY]; exact ((((zFx.rf hr).p1 rfl).p1 rfl).p1 rfl).p1 rfl
        have yn : FrN hr Y := by rw [hY]; exact frpN (frpN (frpN (frpN (frrN hr))))
        have cx : zFx [36, 37, 38] [(7, 3)] hc (pt (pt (pt hc1 36 0 l3 (gt hc1 36 0 l5)) 37 0 l3 (gt hc1 37 0 l5)) 38 0 l3 (gt hc1 38 0 l5)) := ((bx.p1 rfl).p1 rfl).p1 rfl
        have y6 : gt Y 12 0 6 = n := by rw [hY]; exact hn
        have yo : ∀ i, i ≠ l3 → gt Y 54 0 i = gt hr 54 0 i ∧ gt Y 55 0 i = gt hr 55 0 i ∧ gt Y 56 0 i = gt hr 56 0 i ∧ gt Y 57 0 i = gt hr 57 0 i := fun i z => by
          rw [hY]; simp [gt_pt, z]
        have yl : gt Y 54 0 l3 = gt hr 54 0 l5 ∧ gt Y 55 0 l3 = gt hr 55 0 l5 ∧ gt Y 56 0 l3 = gt hr 56 0 l5 ∧ gt Y 57 0 l3 = a := by
          rw [hY]; simp [gt_pt]
        clear hY
        obtain ⟨r, hc', hr', w1, w2, w3, w4, w5, w6, w7, w8⟩ := m_loop (p := p) (w := w) n30 f (l3 + 1) (l5 + 1) _ Y (by omega) (by omega) (by omega) hf' (a1.fr cx rfl) (a2.fr yx rfl) y6
          (fun i q1 q2 => by
            have z3 : i ≠ l3 := by omega
            have z5 : i ≠ l5 := by omega
            obtain ⟨t1, t2, t3, t4⟩ := yo i z3
            refine (U i (by omega) q2).ci ?_ ?_ ?_ t1 t2 t3 t4
            · simp [gt_pt, z3, b36]
            · simp [gt_pt, z3, b37 i z5]
            · simp [gt_pt, z3, b38])
          (fun i q1 q2 => by
            by_cases z3 : i = l3
            · unfold PR
              rw [z3, yl.1, yl.2.1, yl.2.2.1, yl.2.2.2]
              simp only [gt_pt]
              simp only [true_and, and_self, if_true, if_pos]
              refine ⟨?_, ?_, ?_, ?_, u5, ba⟩
              · simp [b36, u1]
              · simp [b38, u2]
              · simp [bl]
              · simp; exact bp
            · have z5 : i ≠ l5 := by omega
              obtain ⟨t1, t2, t3, t4⟩ := yo i z3
              refine (V i q1 (by omega)).ci ?_ ?_ ?_ t1 t2 t3 t4
              · simp [gt_pt, z3, b36]
              · simp [gt_pt, z3, b37 i z5]
              · simp [gt_pt, z3, b38])
        exact ⟨r, hc', hr', w1, w2, w3, cx.tr w4, yx.tr w5, (frpN (frpN (frpN bn))).tr w6, yn.tr w7, w8⟩
      by_cases cp : gt hr 54 0 l5 = p ∧ gt hr 56 0 l5 = w
      · have e1 : F_X7_meets_11b (F_X7_meets_11 f) 0 p w l3 n l5 hc = F_X7_meets_51 (F_X7_meets_11 f) 0 p w l3 n l5 (pt hc 37 0 l5 (gt hc 37 0 l5 - 1)) := by
          unfold F_X7_meets_11b
          simp [c, pc_7_0 a1, pc_7_1 a1, pc_7_2 a1, b5, u1, u2, cp, wI_eq r7]
        rw [e1]
        by_cases cl : gt hr 55 0 l5 ≤ gt hr 57 0 l5 + 1
        · have e2 : F_X12_meets_5b (F_X12_meets_5 f) 0 p w l3 l5 hr = F_X12_meets_5 f 0 p w l3 (l5 + 1) hr := by
            unfold F_X12_meets_5b
            simp [hn, c, pr_7 a2, pr_8 a2, pr_9 a2, pr_10 a2, b5, cp, wI_eq r8, cl, wI_eq r5]
          have n1 : gt hc 37 0 l5 - 1 ≤ 0 := by omega
          have e3 : F_X7_meets_51 (F_X7_meets_11 f) 0 p w l3 n l5 (pt hc 37 0 l5 (gt hc 37 0 l5 - 1)) = F_X7_meets_11 f 0 p w l3 n (l5 + 1) (pt hc 37 0 l5 (gt hc 37 0 l5 - 1)) := by
            unfold F_X7_meets_51
            simp [gt_pt, pc_7_1 a1, b5, n1, wI_eq r5]
          rw [e2, e3]
          have cx : zFx [36, 37, 38] [(7, 3)] hc (pt hc 37 0 l5 (gt hc 37 0 l5 - 1)) := (zFx.rf hc).p1 rfl
          obtain ⟨r, hc', hr', w1, w2, w3, w4, w5, w6, w7, w8⟩ := m_loop (p := p) (w := w) n30 f l3 (l5 + 1) (pt hc 37 0 l5 (gt hc 37 0 l5 - 1)) hr h0 (by omega) (by omega) hf' (a1.fr cx rfl) a2 hn
            (fun i q1 q2 => by
              have z5 : i ≠ l5 := by omega
              refine (U i (by omega) q2).ci rfl ?_ rfl rfl rfl rfl rfl
              simp [gt_pt, z5])
            (fun i q1 q2 => by
              have z5 : i ≠ l5 := by omega
              refine (V i q1 q2).ci rfl ?_ rfl rfl rfl rfl rfl
              simp [gt_pt, z5])
          exact ⟨r, hc', hr', w1, w2, w3, cx.tr w4, w5, (frpN (frrN hc)).tr w6, w7, w8⟩
        · have e2 : F_X12_meets_5b (F_X12_meets_5 f) 0 p w l3 l5 hr = F_X12_meets_5 f 0 p w (l3 + 1) (l5 + 1) (pt (pt (pt (pt hr 54 0 l3 (gt hr 54 0 l5)) 55 0 l3 (gt hr 55 0 l5)) 56 0 l3 (gt hr 56 0 l5)) 57 0 l3 (gt hr 57 0 l5 + 1)) := by
            unfold F_X12_meets_5b F_X12_meets_86
            simp only [zl]
            simp [hn, c, pr_7 a2, pr_8 a2, pr_9 a2, pr_10 a2, b5, b3, cp, wI_eq r8, cl, wI_eq r5, wI_eq r3, gt_pt]
          rw [e2]
          refine key (pt hc 37 0 l5 (gt hc 37 0 l5 - 1)) (gt hr 57 0 l5 + 1) _ (a1.fr (l := [37]) (m := []) ((zFx.rf hc).p1 rfl) rfl) ((zFx.rf hc).p1 rfl) (frpN (frrN hc)) (fun i z => by simp [gt_pt, z]) rfl rfl (by simp [gt_pt]; omega) (by simp [gt_pt]; omega) (by omega) rfl
      · have e1 : F_X7_meets_11b (F_X7_meets_11 f) 0 p w l3 n l5 hc = F_X7_meets_51 (F_X7_meets_11 f) 0 p w l3 n l5 hc := by
          unfold F_X7_meets_11b
          by_cases q : gt hr 54 0 l5 = p
          · have q2 : ¬ gt hr 56 0 l5 = w := fun z => cp ⟨q, z⟩
            simp [c, pc_7_0 a1, pc_7_1 a1, pc_7_2 a1, b5, u1, u2, q, q2]
          · simp [c, pc_7_0 a1, b5, u1, q]
        have e2 : F_X12_meets_5b (F_X12_meets_5 f) 0 p w l3 l5 hr = F_X12_meets_5 f 0 p w (l3 + 1) (l5 + 1) (pt (pt (pt (pt hr 54 0 l3 (gt hr 54 0 l5)) 55 0 l3 (gt hr 55 0 l5)) 56 0 l3 (gt hr 56 0 l5)) 57 0 l3 (gt hr 57 0 l5)) := by
          unfold F_X12_meets_5b F_X12_meets_40 F_X12_meets_86
          simp only [zl]
          by_cases q : gt hr 54 0 l5 = p
          · have q2 : ¬ gt hr 56 0 l5 = w := fun z => cp ⟨q, z⟩
            simp [hn, c, pr_7 a2, pr_8 a2, pr_9 a2, pr_10 a2, b5, b3, q, q2, wI_eq r5, wI_eq r3, gt_pt]
          · simp [hn, c, pr_7 a2, pr_8 a2, pr_9 a2, pr_10 a2, b5, b3, q, wI_eq r5, wI_eq r3, gt_pt]
        rw [e1, e2]
        exact key hc (gt hr 57 0 l5) _ a1 (zFx.rf hc) (frrN hc) (fun i _ => rfl) rfl rfl u3 u4 u6 rfl
