def zSum (f : Int → Int) : Nat → Int
  | 0 => 0
  | n + 1 => zSum f n + f n
theorem zSum_cg {f g : Int → Int} : ∀ (n : Nat), (∀ j : Int, 0 ≤ j → j < n → f j = g j) → zSum f n = zSum g n
  | 0, _ => rfl
  | n + 1, h => by
    show zSum f n + f n = zSum g n + g n
    rw [zSum_cg n fun j a b => h j a (by omega), h n (Int.natCast_nonneg n) (by omega)]
theorem zSum_z {f : Int → Int} : ∀ (n : Nat), (∀ j : Int, 0 ≤ j → j < n → f j = 0) → zSum f n = 0
  | 0, _ => rfl
  | n + 1, h => by
    show zSum f n + f n = 0
    rw [zSum_z n fun j a b => h j a (by omega), h n (Int.natCast_nonneg n) (by omega)]
    rfl
theorem zSum_up {f : Int → Int} {p : Int} (h0 : 0 ≤ p) : ∀ (n : Nat), p < n → zSum f n = zSum (fun j => if j = p then 0 else f j) n + f p
  | 0, h => by omega
  | n + 1, h => by
    show zSum f n + f n = zSum (fun j => if j = p then 0 else f j) n + (if (n : Int) = p then 0 else f n) + f p
    by_cases c : (n : Int) = p
    · rw [if_pos c, c, zSum_cg (f := fun j => if j = p then 0 else f j) (g := f) n fun j a b => if_neg (by omega)]
      omega
    · rw [if_neg c, zSum_up h0 n (by omega)]
      omega
theorem zSum_in {g lp : Int → Int} : ∀ (m : Nat) (f : Int → Int) (n : Nat), (∀ i : Int, 0 ≤ i → i < m → 0 ≤ lp i ∧ lp i < n ∧ f (lp i) = g i) → (∀ i j : Int, 0 ≤ i → i < j → j < m → lp i ≠ lp j) → (∀ p : Int, 0 ≤ p → p < n → (∀ i : Int, 0 ≤ i → i < m → lp i ≠ p) → f p = 0) → zSum f n = zSum g m
  | 0, f, n, _, _, hz => zSum_z n fun j a b => hz j a b fun i q1 q2 => by omega
  | m + 1, f, n, hv, hi, hz => by
    obtain ⟨v1, v2, v3⟩ := hv m (Int.natCast_nonneg m) (by omega)
    show _ = zSum g m + g m
    rw [zSum_up v1 n v2, v3]
    have := zSum_in (g := g) (lp := lp) m (fun j => if j = lp m then 0 else f j) n (fun i a b => by
      obtain ⟨w1, w2, w3⟩ := hv i a (by omega)
      refine ⟨w1, w2, ?_⟩
      show (if lp i = lp m then 0 else f (lp i)) = g i
      rw [if_neg (hi i m a b (by omega))]; exact w3) (fun i j a b c => hi i j a b (by omega)) (fun p a b c => by
      by_cases z : p = lp m
      · exact if_pos z
      · show (if p = lp m then 0 else f p) = 0
        rw [if_neg z]
        refine hz p a b fun i q1 q2 => ?_
        by_cases y : i = m
        · rw [y]; exact fun w => z w.symm
        · exact c i q1 (by omega))
    rw [this]
theorem zSum_bd {f : Int → Int} (h : ∀ j : Int, 0 ≤ f j ∧ f j ≤ 100000) : ∀ (n : Nat), 0 ≤ zSum f n ∧ zSum f n ≤ 100000 * (n : Int)
  | 0 => ⟨Int.le_refl 0, Int.le_refl 0⟩
  | n + 1 => by
    have ih := zSum_bd h n
    have := h n
    have e : zSum f (n + 1) = zSum f n + f n := rfl
    rw [e]
    omega
/-- the class's deposit -/
theorem c_dep {h : zH} {c : Int} (hp : PIc h) (hS : SC h) (h60 : gt h 3 0 1 ≤ 60) {f : Int → Int} (hb : ∀ j : Int, 0 ≤ f j ∧ f j ≤ 100000) (hf : ∀ p : Int, 0 ≤ p → p < gt h 3 0 1 → f p = if gt h 6 p 3 = 1 ∧ gt h 6 p 4 = c then gt h 6 p 2 else 0) {m : Nat} (hm : (m : Int) = gt h 3 0 1) :
    ∀ (n : Nat) (k : Nat), k ≤ m → m - k < n → F_X3_deposit_5 n 0 c (zSum f k) k h = some (zSum f m, h)
  | 0, k, h0, hn => by omega
  | n + 1, k, h0, hn => by
    show F_X3_deposit_5b (F_X3_deposit_5 n) 0 c (zSum f k) k h = _
    unfold F_X3_deposit_5b
    rw [if_pos (by decide), pc_3_0 hp]
    by_cases d : m = k
    · rw [if_pos (by omega), d]
    · have b := zSum_bd hb k
      have f1 := hS.2.2.2.1 k (Int.natCast_nonneg k) (by omega)
      have fb := hb k
      have fk := hf k (Int.natCast_nonneg k) (by omega)
      have hn' : m - (k + 1) < n := by omega
      have hk' : k + 1 ≤ m := by omega
      have en : ((k + 1 : Nat) : Int) = (k : Int) + 1 := by omega
      have es : zSum f (k + 1) = zSum f k + f k := rfl
      have ih := c_dep hp hS h60 hb hf hm n (k + 1) hk' hn'
      rw [en, es] at ih
      rw [if_neg (by omega), if_pos (by decide), if_pos (by omega), f1.1, if_neg (by omega), if_pos (by omega), wI_eq ⟨by omega, by omega⟩]
      by_cases s1 : gt h 6 k 3 = 1
      · by_cases s2 : gt h 6 k 4 = c
        · rw [if_pos ⟨s1, s2⟩] at fk
          rw [if_neg (by simpa using s1), if_neg (by simpa using s2), ← fk, wL_eq ⟨by omega, by omega⟩]
          exact ih
        · rw [if_neg (fun z => s2 z.2)] at fk
          rw [fk, Int.add_zero] at ih
          rw [if_neg (by simpa using s1), if_pos s2]
          exact ih
      · rw [if_neg (fun z => s1 z.1)] at fk
        rw [fk, Int.add_zero] at ih
        rw [if_pos s1]
        exact ih
theorem r_dep {h : zH} {c w : Int} (hp : PIr h) (hc : 0 ≤ c ∧ c < 8) (h60 : gt h 12 0 62 ≤ 60) {g : Int → Int} (hb : ∀ j : Int, 0 ≤ g j ∧ g j ≤ 100000) (hf : ∀ i : Int, 0 ≤ i → i < gt h 12 0 62 → (0 ≤ gt h 89 0 i ∧ gt h 89 0 i < 60) ∧ g i = if gt h 90 0 i = c then gt h 51 0 (gt h 89 0 i) else 0) {m : Nat} (hm : (m : Int) = gt h 12 0 62) :
    ∀ (n : Nat) (k : Nat), k ≤ m → m - k < n → F_X12_cents_35 n 0 c w (zSum g k) k h = some (if w ≠ 0 then gt h 58 0 c else zSum g m, h)
  | 0, k, h0, hn => by omega
  | n + 1, k, h0, hn => by
    show F_X12_cents_35b (F_X12_cents_35 n) 0 c w (zSum g k) k h = _
    unfold F_X12_cents_35b
    rw [if_pos (by decide), pr_11 hp, pr_64 hp, pr_63 hp, pr_2 hp]
    by_cases d : m = k
    · rw [if_pos (by omega), d]
      by_cases w0 : w = 0
      · simp [w0]
      · simp [w0, hc]
    · have b := zSum_bd hb k
      obtain ⟨f1, fk⟩ := hf k (Int.natCast_nonneg k) (by omega)
      have fb := hb k
      have hn' : m - (k + 1) < n := by omega
      have hk' : k + 1 ≤ m := by omega
      have en : ((k + 1 : Nat) : Int) = (k : Int) + 1 := by omega
      have es : zSum g (k + 1) = zSum g k + g k := rfl
      have ih := r_dep (w := w) hp hc h60 hb hf hm n (k + 1) hk' hn'
      rw [en, es] at ih
      rw [if_neg (by omega), if_pos (by decide), if_pos (by omega), wI_eq ⟨by omega, by omega⟩]
      by_cases s1 : gt h 90 0 k = c
      · rw [if_pos s1] at fk
        rw [if_neg (by simpa using s1), if_pos (by decide), if_pos (by decide), if_pos f1, ← fk, wL_eq ⟨by omega, by omega⟩]
        exact ih
      · rw [if_neg s1] at fk
        rw [fk] at ih
        rw [if_pos s1, wL_eq ⟨by omega, by omega⟩]
        exact ih
theorem ap_cents (c w : Int) : Ap (F_X11_cents 0 c w) (F_X12_cents 0 c w) := ap_read fun N hc hr _ _ R => by
  obtain ⟨a1, a2, a3, a4, a5, a6, a7, a8, a9, a10, a11, a12⟩ := R
  obtain ⟨p1, p2, p3, p4⟩ := a5
  obtain ⟨k1, k2, k3, k4, k5, k6⟩ := a12
  by_cases cc : 0 ≤ c ∧ c < 8
  · have cc' : 0 ≤ c ∧ c ≤ 7 := by omega
    by_cases cw : 0 ≤ w ∧ w < 2
    · have cw' : 0 ≤ w ∧ w ≤ 1 := by omega
      obtain ⟨n, hn⟩ : ∃ n : Nat, (n : Int) = gt hc 3 0 1 := ⟨(gt hc 3 0 1).toNat, by omega⟩
      obtain ⟨m, hm⟩ : ∃ m : Nat, (m : Int) = gt hr 12 0 62 := ⟨(gt hr 12 0 62).toNat, by omega⟩
      obtain ⟨f, hf⟩ : ∃ f : Int → Int, f = fun p => if 0 ≤ p ∧ p < gt hc 3 0 1 then (if gt hc 6 p 3 = 1 ∧ gt hc 6 p 4 = c then gt hc 6 p 2 else 0) else 0 := ⟨_, rfl⟩
      obtain ⟨g, hg⟩ : ∃ g : Int → Int, g = fun i => if 0 ≤ i ∧ i < gt hr 12 0 62 then (if gt hr 90 0 i = c then gt hr 51 0 (gt hr 89 0 i) else 0) else 0 := ⟨_, rfl⟩
      have fb : ∀ j, 0 ≤ f j ∧ f j ≤ 100000 := fun j => by
        rw [hf]
        by_cases q : 0 ≤ j ∧ j < gt hc 3 0 1
        · obtain ⟨z1, z2, z3, z4, z5, z6, z7⟩ := p4 j q.1 q.2
          simp only [if_pos q]
          split <;> omega
        · simp [q]
      have gb : ∀ j, 0 ≤ g j ∧ g j ≤ 100000 := fun j => by
        rw [hg]
        by_cases q : 0 ≤ j ∧ j < gt hr 12 0 62
        · obtain ⟨z1, z2, z3, _⟩ := k4 j q.1 q.2
          obtain ⟨y1, y2, y3, y4, y5, y6, y7⟩ := p4 (gt hr 89 0 j) z2 (by omega)
          simp only [if_pos q]
          split <;> omega
        · simp [q]
      have f2 : ∀ p : Int, 0 ≤ p → p < gt hc 3 0 1 → f p = if gt hc 6 p 3 = 1 ∧ gt hc 6 p 4 = c then gt hc 6 p 2 else 0 := fun p q1 q2 => by rw [hf]; exact if_pos ⟨q1, q2⟩
      have g2 : ∀ i : Int, 0 ≤ i → i < gt hr 12 0 62 → g i = if gt hr 90 0 i = c then gt hr 51 0 (gt hr 89 0 i) else 0 := fun p q1 q2 => by rw [hg]; exact if_pos ⟨q1, q2⟩
      clear hf hg
      have E : zSum f n = zSum g m := by
        refine zSum_in (lp := gt hr 89 0) m f n (fun i q1 q2 => ?_) (fun i j q1 q2 q3 => k5 i j q1 q2 (by omega)) (fun p q1 q2 q3 => ?_)
        · obtain ⟨z1, z2, z3, z4, z5, _⟩ := k4 i q1 (by omega)
          obtain ⟨y1, y2, y3, y4, y5, y6, y7⟩ := p4 (gt hr 89 0 i) z2 (by omega)
          refine ⟨z2, by omega, ?_⟩
          rw [f2 _ z2 (by omega), g2 i q1 (by omega), y3, z4, z5, y2]
          simp
        · rw [f2 p q1 (by omega)]
          refine if_neg fun z => ?_
          obtain ⟨y1, y2, y3, y4, y5, y6, y7⟩ := p4 p q1 (by omega)
          obtain ⟨i, w1, w2, w3⟩ := k6 p q1 (by omega) (by rw [← y3]; exact z.1)
          exact q3 i w1 (by omega) w3
      have hz := zF_i
      have D1 : F_X3_deposit 0 c hc = some (zSum f n, hc) := c_dep a1 a4 p3 fb f2 hn zF 0 (Nat.zero_le _) (by omega)
      have D2 : F_X12_cents_35 zF 0 c w 0 0 hr = some (if w ≠ 0 then gt hr 58 0 c else zSum g m, hr) := r_dep (w := w) a2 cc (by omega) gb (fun i q1 q2 => by
        obtain ⟨z1, z2, z3, _⟩ := k4 i q1 q2
        exact ⟨⟨z2, by omega⟩, g2 i q1 q2⟩) hm zF 0 (Nat.zero_le _) (by omega)
      refine ⟨if w ≠ 0 then gt hr 58 0 c else zSum g m, ?_, ?_⟩
      · unfold F_X11_cents F_X11_cents_0
        simp only [s_within, zb, pc_11_0 a1, pc_3_6 a1, D1, E]
        by_cases w0 : w = 0
        · simp [cc, w0]
        · simp [cc, cw, w0, a9 c cc.1 cc.2]
      · unfold F_X12_cents F_X12_cents_0
        simp only [s_in, zb, D2]
        simp [cc', cw']
    · refine ⟨-102, ?_, ?_⟩
      · unfold F_X11_cents F_X11_cents_0
        simp only [s_within, zb]
        simp [cc, cw]
      · have cw' : ¬ (0 ≤ w ∧ w ≤ 1) := by omega
        unfold F_X12_cents F_X12_cents_0
        simp only [s_in, zb]
        simp [cc', cw']
  · refine ⟨-101, ?_, ?_⟩
    · unfold F_X11_cents F_X11_cents_0
      simp only [s_within, zb]
      simp [cc]
    · have cc' : ¬ (0 ≤ c ∧ c ≤ 7) := by omega
      unfold F_X12_cents F_X12_cents_0
      simp only [s_in, zb]
      simp [cc']
