/-! calls of the class and of the reference, side by side: parts, THE CLEANING -/
theorem s_noPart {h : zH} {p : Int} (h0 : 0 ≤ gt h 12 0 0) (h1 : gt h 12 0 0 ≤ 60) : F_X12_noPart 0 p h = some (if 0 ≤ p ∧ p < gt h 12 0 0 then 0 else 1, h) := by
  unfold F_X12_noPart F_X12_noPart_0
  rw [if_pos (by decide), s_in, wI_eq ⟨by omega, by omega⟩]
  show (if (if 0 ≤ p ∧ p ≤ gt h 12 0 0 - 1 then (1 : Int) else 0) ≠ 0 then some ((0 : Int), h) else some (1, h)) = _
  by_cases c : 0 ≤ p ∧ p < gt h 12 0 0
  · rw [if_pos c, if_pos (c := 0 ≤ p ∧ p ≤ gt h 12 0 0 - 1) (by omega)]; rfl
  · rw [if_neg c, if_neg (c := 0 ≤ p ∧ p ≤ gt h 12 0 0 - 1) (by omega)]; rfl
theorem s_find {h : zH} {p : Int} (hp : PIc h) (h1 : gt h 3 0 1 ≤ 60) : F_X3_find 0 p h = some (if 0 ≤ p ∧ p < gt h 3 0 1 then gt h 27 0 p else -1, h) := by
  unfold F_X3_find F_X3_find_0
  rw [if_pos (by decide), s_within]
  show (if (if 0 ≤ p ∧ p < gt h 3 0 1 then (1 : Int) else 0) = 0 then some ((-1 : Int), h) else _) = _
  by_cases c : 0 ≤ p ∧ p < gt h 3 0 1
  · rw [if_pos c, if_pos c, if_neg (by decide), pc_3_0 hp, if_pos (by decide), if_pos (by omega)]
  · rw [if_neg c, if_neg c, if_pos rfl]
theorem a_state {hc hr : zH} {p : Int} (hp : PIc hc) (hq : PIr hr) (hS : SC hc) (hP : RP hc hr) : ∃ r, F_X11_state 0 p hc = some (r, hc) ∧ F_X12_state 0 p hr = some (r, hr) := by
  obtain ⟨e1, e2, e3, e4⟩ := hP
  refine ⟨if 0 ≤ p ∧ p < gt hc 3 0 1 then gt hr 52 0 p else -101, ?_, ?_⟩
  · unfold F_X11_state F_X11_state_0
    simp only [pc_11_0 hp, s_find hp e3, zb]
    by_cases c : 0 ≤ p ∧ p < gt hc 3 0 1
    · have f1 := hS.2.2.2.1 p c.1 c.2
      have f2 := e4 p c.1 c.2
      have c3 : ¬ p = -1 := by omega
      simp [c, f1, f2, c3]
    · simp [c]
  · unfold F_X12_state F_X12_state_0
    simp only [s_noPart (h := hr) (p := p) (by omega) (by omega), zb, e1, pr_3 hq]
    by_cases c : 0 ≤ p ∧ p < gt hc 3 0 1
    · have c3 : p < 60 := by omega
      simp [c, c3]
    · simp [c]
theorem a_cleaning {hc hr : zH} {i : Int} (hp : PIc hc) (hq : PIr hr) (hP : RP hc hr) (hC : RC hc hr) : ∃ r, F_X11_cleaning 0 i hc = some (r, hc) ∧ F_X12_cleaning 0 i hr = some (r, hr) := by
  obtain ⟨e1, e2, e3, e4, e5⟩ := hC
  obtain ⟨g1, g2, g3, g4⟩ := hP
  refine ⟨if 0 ≤ i ∧ i < gt hc 3 0 3 then gt hr 53 0 i else -1, ?_, ?_⟩
  · unfold F_X11_cleaning F_X11_cleaning_0 F_X3_inCleaning F_X3_inCleaning_0
    simp only [pc_11_0 hp, pc_3_2 hp, s_within, zb]
    by_cases c : 0 ≤ i ∧ i < gt hc 3 0 3
    · have f1 := (e4 i c.1 (by omega)).1
      have c3 : i < 60 := by omega
      simp [c, f1, c3]
    · simp [c]
  · unfold F_X12_cleaning F_X12_cleaning_0
    simp only [s_in, zb, pr_5 hq]
    rw [wI_eq ⟨by omega, by omega⟩]
    by_cases c : 0 ≤ i ∧ i < gt hc 3 0 3
    · have c3 : i < 60 := by omega
      have c4 : i ≤ gt hr 12 0 4 - 1 := by omega
      simp [c, c3, c4]
    · have c4 : ¬ (0 ≤ i ∧ i ≤ gt hr 12 0 4 - 1) := by omega
      simp [c, c4]
theorem c_inCl {h : zH} {i : Int} (hp : PIc h) (h1 : gt h 3 0 3 ≤ 60) : F_X3_inCleaning 0 i h = some (if 0 ≤ i ∧ i < gt h 3 0 3 then gt h 28 0 i else -1, h) := by
  unfold F_X3_inCleaning F_X3_inCleaning_0
  simp only [pc_3_2 hp, s_within, zb]
  by_cases c : 0 ≤ i ∧ i < gt h 3 0 3
  · have c3 : i < 60 := by omega
    simp [c, c3]
  · simp [c]
abbrev tst (c : Nat) (j : Int) : Prop := c = 6 ∧ j = 3
/-- the class's first loop of clean: the PARTS at the places from i on, before m, come to their RACKS -/
theorem c_cl1 {m : Int} (hm : m ≤ 60) : ∀ (n : Nat) (i : Int) (h : zH), 0 ≤ i → i ≤ m → m - i < n → PIc h → SC h → gt h 3 0 1 ≤ 60 → m ≤ gt h 3 0 3 → gt h 3 0 3 ≤ 60 → (∀ k : Int, 0 ≤ k → k < m → 0 ≤ gt h 28 0 k ∧ gt h 28 0 k < gt h 3 0 1) →
    ∃ h', F_X3_cleanFirst_11 n 0 m i h = F_X3_cleanFirst_46 zF 0 m m h' ∧ FrN h h' ∧ zFr tst h h' ∧ (∀ k : Int, i ≤ k → k < m → gt h' 6 (gt h 28 0 k) 3 = 0) ∧ ∀ p : Int, (∀ k : Int, i ≤ k → k < m → gt h 28 0 k ≠ p) → gt h' 6 p 3 = gt h 6 p 3
  | 0, i, h, h0, h1, hn, _, _, _, _, _, _ => by omega
  | n + 1, i, h, h0, h1, hn, hp, hS, hP, hc, hc2, hv => by
    show ∃ h', F_X3_cleanFirst_11b (F_X3_cleanFirst_11 n) 0 m i h = _ ∧ _
    unfold F_X3_cleanFirst_11b
    by_cases c : m ≤ i
    · rw [if_pos c]
      exact ⟨h, rfl, frrN h, zFr.rf h, fun k a b => by omega, fun p _ => rfl⟩
    · rw [if_neg c, if_pos (by decide), c_inCl hp hc2]
      have c1 : 0 ≤ i ∧ i < gt h 3 0 3 := by omega
      obtain ⟨v0, v1⟩ := hv i h0 (by omega)
      have f1 := hS.2.2.2.1 _ v0 v1
      have e1 : zb (some (if 0 ≤ i ∧ i < gt h 3 0 3 then gt h 28 0 i else -1, h)) (fun r2 h2 => zb (F_X3_find 0 r2 h2) (fun r4 h4 => if r4 = -1 then (F_X3_cleanFirst_11 n 0 m (wI (i + 1)) h4) else (if 0 ≤ r4 then (F_X3_cleanFirst_11 n 0 m (wI (i + 1)) (pt h4 6 r4 3 0)) else none))) = F_X3_cleanFirst_11 n 0 m (i + 1) (pt h 6 (gt h 28 0 i) 3 0) := by
        simp only [zb, if_pos c1, s_find hp hP, if_pos (And.intro v0 v1), f1.1]
        rw [if_neg (by omega), if_pos v0, wI_eq ⟨by omega, by omega⟩]
      rw [e1]
      obtain ⟨h', g1, g2, g3, g4, g5⟩ := c_cl1 hm n (i + 1) (pt h 6 (gt h 28 0 i) 3 0) (by omega) (by omega) (by omega) (hp.cg fun c i' j t => by rw [gt_pt, if_neg (by intro z; omega)]) (SC.cg (h := h) (fun c i' j t => by rw [gt_pt, if_neg (by intro z; omega)]) rfl hS) hP hc hc2 hv
      have q28 : ∀ k, gt (pt h 6 (gt h 28 0 i) 3 0) 28 0 k = gt h 28 0 k := fun k => rfl
      have q6 : ∀ p, gt (pt h 6 (gt h 28 0 i) 3 0) 6 p 3 = if p = gt h 28 0 i then 0 else gt h 6 p 3 := fun p => by rw [gt_pt]; by_cases z : p = gt h 28 0 i <;> simp [z]
      refine ⟨h', g1, (frpN (frrN h)).tr g2, (zFr.pt (zFr.rf h) ⟨rfl, rfl⟩).tr g3, fun k a b => ?_, fun p hpk => ?_⟩
      · by_cases hk : i + 1 ≤ k
        · exact g4 k hk b
        · have : k = i := by omega
          subst this
          by_cases hex : ∀ k' : Int, k + 1 ≤ k' → k' < m → gt h 28 0 k' ≠ gt h 28 0 k
          · rw [g5 _ hex, q6, if_pos rfl]
          · have hex2 : ∃ k' : Int, k + 1 ≤ k' ∧ k' < m ∧ gt h 28 0 k' = gt h 28 0 k := by
              refine Classical.byContradiction fun z => hex fun k' a' b' e => z ⟨k', a', b', e⟩
            obtain ⟨k', a', b', e⟩ := hex2
            rw [← e]; exact g4 k' a' b'
      · rw [g5 p fun k a b => hpk k (by omega) b, q6, if_neg fun z => hpk i (Int.le_refl _) (by omega) z.symm]
abbrev t28 (c : Nat) (j : Int) : Prop := c = 28
/-- the second: what stands behind moves up -/
theorem c_cl2 {m : Int} (h0 : 0 ≤ m) : ∀ (n : Nat) (i : Int) (h : zH), m ≤ i → i ≤ gt h 3 0 3 → gt h 3 0 3 - i < n → PIc h → gt h 3 0 3 ≤ 60 →
    ∃ h', F_X3_cleanFirst_46 n 0 m i h = some (m, pt h' 3 0 3 (gt h 3 0 3 - m)) ∧ FrN h h' ∧ zFr t28 h h' ∧ (∀ k : Int, i - m ≤ k → k < gt h 3 0 3 - m → gt h' 28 0 k = gt h 28 0 (k + m)) ∧ ∀ k : Int, k < i - m → gt h' 28 0 k = gt h 28 0 k
  | 0, i, h, h1, h2, hn, _, _ => by omega
  | n + 1, i, h, h1, h2, hn, hp, hc => by
    show ∃ h', F_X3_cleanFirst_46b (F_X3_cleanFirst_46 n) 0 m i h = _ ∧ _
    unfold F_X3_cleanFirst_46b
    by_cases c : gt h 3 0 3 ≤ i
    · rw [if_pos (by decide), if_pos c, wI_eq ⟨by omega, by omega⟩]
      exact ⟨h, rfl, frrN h, zFr.rf h, fun k a b => by omega, fun k _ => rfl⟩
    · rw [if_pos (by decide), if_neg c, pc_3_2 hp, if_pos (by decide), if_pos (by omega), wI_eq ⟨by omega, by omega⟩, if_pos (by omega), wI_eq ⟨by omega, by omega⟩]
      obtain ⟨h', g1, g2, g3, g4, g5⟩ := c_cl2 h0 n (i + 1) (pt h 28 0 (i - m) (gt h 28 0 i)) (by omega) (show i + 1 ≤ gt h 3 0 3 by omega) (show gt h 3 0 3 - (i + 1) < n by omega) (hp.cg fun c i' j t => by rw [gt_pt, if_neg (by intro z; omega)]) hc
      have q28 : ∀ k, gt (pt h 28 0 (i - m) (gt h 28 0 i)) 28 0 k = if k = i - m then gt h 28 0 i else gt h 28 0 k := fun k => by rw [gt_pt]; by_cases z : k = i - m <;> simp [z]
      refine ⟨h', g1, (frpN (frrN h)).tr g2, (zFr.pt (zFr.rf h) rfl).tr g3, fun k a b => ?_, fun k a => ?_⟩
      · by_cases hk : i + 1 - m ≤ k
        · rw [g4 k hk b, q28, if_neg (by omega)]
        · rw [g5 k (by omega), q28, if_pos (by omega), show k + m = i by omega]
      · rw [g5 k (by omega), q28, if_neg (by omega)]
abbrev t52 (c : Nat) (j : Int) : Prop := c = 52
abbrev t53 (c : Nat) (j : Int) : Prop := c = 53
/-- the reference's first loop of clean -/
theorem r_cl1 {m : Int} (hm : m ≤ 60) : ∀ (n : Nat) (i : Int) (h : zH), 0 ≤ i → i ≤ m → m - i < n → PIr h → m ≤ gt h 12 0 4 → gt h 12 0 4 ≤ 60 → (∀ k : Int, 0 ≤ k → k < m → 0 ≤ gt h 53 0 k ∧ gt h 53 0 k < 60) →
    ∃ h', F_X12_clean_34 n 0 m i h = F_X12_clean_59 zF 0 m m h' ∧ FrN h h' ∧ zFr t52 h h' ∧ (∀ k : Int, i ≤ k → k < m → gt h' 52 0 (gt h 53 0 k) = 0) ∧ ∀ p : Int, (∀ k : Int, i ≤ k → k < m → gt h 53 0 k ≠ p) → gt h' 52 0 p = gt h 52 0 p
  | 0, i, h, h0, h1, hn, _, _, _, _ => by omega
  | n + 1, i, h, h0, h1, hn, hp, hc, hc2, hv => by
    show ∃ h', F_X12_clean_34b (F_X12_clean_34 n) 0 m i h = _ ∧ _
    unfold F_X12_clean_34b
    by_cases c : m ≤ i
    · rw [if_pos c]
      exact ⟨h, rfl, frrN h, zFr.rf h, fun k a b => by omega, fun p _ => rfl⟩
    · obtain ⟨v0, v1⟩ := hv i h0 (by omega)
      rw [if_neg c, if_pos (by decide), pr_5 hp, if_pos (by decide), if_pos (by omega), pr_3 hp, if_pos (by decide), if_pos ⟨v0, v1⟩, wI_eq ⟨by omega, by omega⟩]
      obtain ⟨h', g1, g2, g3, g4, g5⟩ := r_cl1 hm n (i + 1) (pt h 52 0 (gt h 53 0 i) 0) (by omega) (by omega) (by omega) (hp.cg fun c i' j t => by rw [gt_pt, if_neg (by intro z; omega)]) hc hc2 hv
      have q6 : ∀ p, gt (pt h 52 0 (gt h 53 0 i) 0) 52 0 p = if p = gt h 53 0 i then 0 else gt h 52 0 p := fun p => by rw [gt_pt]; by_cases z : p = gt h 53 0 i <;> simp [z]
      refine ⟨h', g1, (frpN (frrN h)).tr g2, (zFr.pt (zFr.rf h) rfl).tr g3, fun k a b => ?_, fun p hpk => ?_⟩
      · by_cases hk : i + 1 ≤ k
        · exact g4 k hk b
        · have : k = i := by omega
          subst this
          by_cases hex : ∀ k' : Int, k + 1 ≤ k' → k' < m → gt h 53 0 k' ≠ gt h 53 0 k
          · rw [g5 _ hex, q6, if_pos rfl]
          · have hex2 : ∃ k' : Int, k + 1 ≤ k' ∧ k' < m ∧ gt h 53 0 k' = gt h 53 0 k := by
              refine Classical.byContradiction fun z => hex fun k' a' b' e => z ⟨k', a', b', e⟩
            obtain ⟨k', a', b', e⟩ := hex2
            rw [← e]; exact g4 k' a' b'
      · rw [g5 p fun k a b => hpk k (by omega) b, q6, if_neg fun z => hpk i (Int.le_refl _) (by omega) z.symm]
theorem r_cl2 {m : Int} (h0 : 0 ≤ m) : ∀ (n : Nat) (i : Int) (h : zH), m ≤ i → i ≤ gt h 12 0 4 → gt h 12 0 4 - i < n → PIr h → gt h 12 0 4 ≤ 60 →
    ∃ h', F_X12_clean_59 n 0 m i h = some (m, pt h' 12 0 4 (gt h 12 0 4 - m)) ∧ FrN h h' ∧ zFr t53 h h' ∧ (∀ k : Int, i - m ≤ k → k < gt h 12 0 4 - m → gt h' 53 0 k = gt h 53 0 (k + m)) ∧ ∀ k : Int, k < i - m → gt h' 53 0 k = gt h 53 0 k
  | 0, i, h, h1, h2, hn, _, _ => by omega
  | n + 1, i, h, h1, h2, hn, hp, hc => by
    show ∃ h', F_X12_clean_59b (F_X12_clean_59 n) 0 m i h = _ ∧ _
    unfold F_X12_clean_59b
    by_cases c : gt h 12 0 4 ≤ i
    · rw [if_pos (by decide), if_pos c, wI_eq ⟨by omega, by omega⟩]
      exact ⟨h, rfl, frrN h, zFr.rf h, fun k a b => by omega, fun k _ => rfl⟩
    · rw [if_pos (by decide), if_neg c, pr_5 hp, if_pos (by decide), if_pos (by omega), wI_eq ⟨by omega, by omega⟩, if_pos (by omega), wI_eq ⟨by omega, by omega⟩]
      obtain ⟨h', g1, g2, g3, g4, g5⟩ := r_cl2 h0 n (i + 1) (pt h 53 0 (i - m) (gt h 53 0 i)) (by omega) (show i + 1 ≤ gt h 12 0 4 by omega) (show gt h 12 0 4 - (i + 1) < n by omega) (hp.cg fun c i' j t => by rw [gt_pt, if_neg (by intro z; omega)]) hc
      have q28 : ∀ k, gt (pt h 53 0 (i - m) (gt h 53 0 i)) 53 0 k = if k = i - m then gt h 53 0 i else gt h 53 0 k := fun k => by rw [gt_pt]; by_cases z : k = i - m <;> simp [z]
      refine ⟨h', g1, (frpN (frrN h)).tr g2, (zFr.pt (zFr.rf h) rfl).tr g3, fun k a b => ?_, fun k a => ?_⟩
      · by_cases hk : i + 1 - m ≤ k
        · rw [g4 k hk b, q28, if_neg (by omega)]
        · rw [g5 k (by omega), q28, if_pos (by omega), show k + m = i by omega]
      · rw [g5 k (by omega), q28, if_neg (by omega)]
/-- LEAKS look at STATES but for 1 at nothing of them -/
theorem RK.st {hc hc' hr hr' : zH} (ehc : ∀ c i j, tRKc c j → gt hc' c i j = gt hc c i j) (ehr : ∀ c i j, tRKr c j → c ≠ 52 → gt hr' c i j = gt hr c i j) (es : ∀ p : Int, 0 ≤ p → p < gt hr 12 0 0 → (gt hr' 52 0 p = 1 ↔ gt hr 52 0 p = 1)) (k : RK hc hr) : RK hc' hr' := by
  have k' : RK hc' (up hr' 52 (gt hr 52)) := RK.cg ehc (fun c i j t => by
    rw [gt_up]
    by_cases z : c = 52
    · rw [if_pos z, z]
    · rw [if_neg z]; exact ehr c i j t z) k
  obtain ⟨k1, k2, k3, k4, k5, k6⟩ := k'
  have q : ∀ c i j, c ≠ 52 → gt (up hr' 52 (gt hr 52)) c i j = gt hr' c i j := fun c i j n => by rw [gt_up, if_neg n]
  simp only [q 12 _ _ (by decide), q 89 _ _ (by decide), q 90 _ _ (by decide), q 91 _ _ (by decide), q 92 _ _ (by decide)] at k1 k2 k3 k4 k5 k6
  have q5 : ∀ i j, gt (up hr' 52 (gt hr 52)) 52 i j = gt hr 52 i j := fun i j => by rw [gt_up, if_pos rfl]
  simp only [q5] at k4 k6
  have e0 : gt hr' 12 0 0 = gt hr 12 0 0 := ehr 12 0 0 (by decide) (by decide)
  refine ⟨k1, k2, k3, fun i a b => ?_, k5, fun p a b c => k6 p a b ((es p a (by omega)).mp c)⟩
  obtain ⟨x1, x2, x3, x4, x5⟩ := k4 i a b
  exact ⟨x1, x2, x3, (es _ x2 (by omega)).mpr x4, x5⟩
