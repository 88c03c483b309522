/-! FAILURES, BLOCKS, ACTS under way -/
def RF (hc hr : zH) : Prop := gt hc 2 0 6 = gt hr 12 0 45 ∧ 0 ≤ gt hc 2 0 6 ∧ gt hc 2 0 6 ≤ 16 ∧ ∀ i : Int, 0 ≤ i → i < gt hc 2 0 6 → gt hc 21 0 i = gt hr 83 0 i ∧ gt hc 22 0 i = gt hr 84 0 i ∧ gt hc 23 0 i = gt hr 85 0 i ∧ gt hc 24 0 i = gt hr 86 0 i ∧ gt hc 25 0 i = gt hr 87 0 i ∧ gt hc 26 0 i = gt hr 88 0 i ∧ 0 ≤ gt hr 83 0 i ∧ gt hr 83 0 i < 12 ∧ -1 ≤ gt hr 87 0 i
theorem RF.fr {lc lr : List Nat} {mc mr : List (Nat × Int)} {hc hc' hr hr' : zH} (K : RF hc hr) (xc : zFx lc mc hc hc') (dc : zdj [21, 22, 23, 24, 25, 26] [(2, 6)] lc mc = true) (xr : zFx lr mr hr hr') (dr : zdj [83, 84, 85, 86, 87, 88] [(12, 45)] lr mr = true) : RF hc' hr' := by
  unfold RF
  rw [zdf2 dc xc (c := 2) (j := 6) (by decide) 0, zdf2 dr xr (c := 12) (j := 45) (by decide) 0]
  have g : ∀ q : Nat, ([21, 22, 23, 24, 25, 26] : List Nat).contains q = true → gt hc' q 0 = gt hc q 0 := fun q z => by funext j; exact zdk dc xc z 0 j
  have g2 : ∀ q : Nat, ([83, 84, 85, 86, 87, 88] : List Nat).contains q = true → gt hr' q 0 = gt hr q 0 := fun q z => by funext j; exact zdk dr xr z 0 j
  rw [g 21 rfl, g 22 rfl, g 23 rfl, g 24 rfl, g 25 rfl, g 26 rfl, g2 83 rfl, g2 84 rfl, g2 85 rfl, g2 86 rfl, g2 87 rfl, g2 88 rfl]
  exact K
theorem m_add {hc hr : zH} {kd a ln p : Int} (a1 : PIc hc) (a2 : PIr hr) (K : RF hc hr) (c16 : gt hc 2 0 6 < 16) (ha : 0 ≤ gt hr 12 0 67 ∧ gt hr 12 0 67 < 150) (ea : gt hr 70 0 (gt hr 12 0 67) = a) (kd0 : 0 ≤ kd) (kd1 : kd < 12) :
    ∃ hc' hr', F_X2_add 0 kd a ln p hc = some (gt hc 2 0 6, hc') ∧ F_X12_newFailure 0 kd ln p hr = some (gt hc 2 0 6, hr') ∧ zFx [21, 22, 23, 24, 25, 26] [(2, 6)] hc hc' ∧ FrN hc hc' ∧ zFx [83, 84, 85, 86, 87, 88] [(12, 45)] hr hr' ∧ FrN hr hr' ∧ RF hc' hr' ∧ gt hc' 2 0 6 = gt hc 2 0 6 + 1 := by
  obtain ⟨k1, k2, k3, k4⟩ := K
  obtain ⟨f, hf⟩ : ∃ f, f = gt hc 2 0 6 := ⟨_, rfl⟩
  rw [← hf] at k1 k2 k3 k4 c16 ⊢
  have fb : 0 ≤ f ∧ f < 16 := ⟨k2, c16⟩
  have r1 : -1000000 ≤ f + 1 ∧ f + 1 ≤ 1000000 := by omega
  have r2 : -1000000 ≤ f + 1 - 1 ∧ f + 1 - 1 ≤ 1000000 := by omega
  have w3 : wI f = f := wI_s ⟨by omega, by omega⟩
  obtain ⟨X, hX⟩ : ∃ X, X = pt (pt (pt (pt (pt (pt (pt hc 21 0 f kd) 22 0 f a) 23 0 f ln) 24 0 f p) 25 0 f (-1)) 26 0 f (-1)) 2 0 6 (f + 1) := ⟨_, rfl⟩
  obtain ⟨Y, hY⟩ : ∃ Y, Y = pt (pt (pt (pt (pt (pt (pt hr 83 0 f kd) 84 0 f a) 85 0 f ln) 86 0 f p) 87 0 f (-1)) 88 0 f (-1)) 12 0 45 (f + 1) := ⟨_, rfl⟩
  have eX : F_X2_add 0 kd a ln p hc = some (f, X) := by
    rw [hX]
    unfold F_X2_add F_X2_add_0
    simp only [s_within, zb, zl, ← hf]
    simp [fb, pc_2_0 a1, pc_2_1 a1, pc_2_2 a1, pc_2_3 a1, pc_2_4 a1, pc_2_5 a1, gt_pt, wI_s r1, w3, ← hf]
  have eY : F_X12_newFailure 0 kd ln p hr = some (f, Y) := by
    rw [hY]
    unfold F_X12_newFailure F_X12_newFailure_0
    simp only [zl]
    simp [fb, pr_46 a2, pr_28 a2, pr_47 a2, pr_48 a2, pr_49 a2, pr_50 a2, pr_51 a2, gt_pt, ← k1, ha, ea, wI_s r1]
  have xx : zFx [21, 22, 23, 24, 25, 26] [(2, 6)] hc X := by rw [hX]; exact (((((((zFx.rf hc).p1 rfl).p1 rfl).p1 rfl).p1 rfl).p1 rfl).p1 rfl).p2 rfl
  have yy : zFx [83, 84, 85, 86, 87, 88] [(12, 45)] hr Y := by rw [hY]; exact (((((((zFx.rf hr).p1 rfl).p1 rfl).p1 rfl).p1 rfl).p1 rfl).p1 rfl).p2 rfl
  have xn : FrN hc X := by rw [hX]; exact frpN (frpN (frpN (frpN (frpN (frpN (frpN (frrN hc)))))))
  have yn : FrN hr Y := by rw [hY]; exact frpN (frpN (frpN (frpN (frpN (frpN (frpN (frrN hr)))))))
  have v : ∀ i : Int, gt X 21 0 i = (if i = f then kd else gt hc 21 0 i) ∧ gt X 22 0 i = (if i = f then a else gt hc 22 0 i) ∧ gt X 23 0 i = (if i = f then ln else gt hc 23 0 i) ∧ gt X 24 0 i = (if i = f then p else gt hc 24 0 i) ∧ gt X 25 0 i = (if i = f then -1 else gt hc 25 0 i) ∧ gt X 26 0 i = (if i = f then -1 else gt hc 26 0 i) := fun i => by
    rw [hX]; by_cases z : i = f <;> simp [gt_pt, z]
  have w : ∀ i : Int, gt Y 83 0 i = (if i = f then kd else gt hr 83 0 i) ∧ gt Y 84 0 i = (if i = f then a else gt hr 84 0 i) ∧ gt Y 85 0 i = (if i = f then ln else gt hr 85 0 i) ∧ gt Y 86 0 i = (if i = f then p else gt hr 86 0 i) ∧ gt Y 87 0 i = (if i = f then -1 else gt hr 87 0 i) ∧ gt Y 88 0 i = (if i = f then -1 else gt hr 88 0 i) := fun i => by
    rw [hY]; by_cases z : i = f <;> simp [gt_pt, z]
  have x6 : gt X 2 0 6 = f + 1 := by rw [hX]; rfl
  have y45 : gt Y 12 0 45 = f + 1 := by rw [hY]; rfl
  refine ⟨X, Y, eX, eY, xx, xn, yy, yn, ⟨by rw [x6, y45], by rw [x6]; omega, by rw [x6]; omega, fun i i0 i1 => ?_⟩, x6⟩
  rw [x6] at i1
  obtain ⟨v1, v2, v3, v4, v5, v6⟩ := v i
  obtain ⟨w1, w2, w3, w4, w5, w6⟩ := w i
  rw [v1, v2, v3, v4, v5, v6, w1, w2, w3, w4, w5, w6]
  by_cases z : i = f
  · simp only [if_pos z]
    exact ⟨trivial, trivial, trivial, trivial, trivial, trivial, kd0, kd1, by decide⟩
  · simp only [if_neg z]
    exact k4 i i0 (by omega)
theorem c_add_full {hc : zH} {kd a ln p : Int} (c16 : gt hc 2 0 6 = 16) : F_X2_add 0 kd a ln p hc = some (-1, hc) := by
  unfold F_X2_add F_X2_add_0
  simp only [s_within, zb, c16]
  simp
/-- an ACT under way: the BLOCK, its two places in the pile -/
def EA (hc hr : zH) (sid : Int → Int) (q k S : Int) : Prop := 1 ≤ k ∧ 1 ≤ S ∧ gt hr 68 0 (q - 1) = 17 ∧ gt hr 70 0 (q - 1) = gt hc 1 k 1 ∧ gt hr 68 0 q = 12 ∧ gt hr 69 0 q = -1 ∧ gt hr 70 0 q = sid S ∧ gt hc 9 S 0 = gt hc 1 k 1 ∧ gt hc 9 S 1 = -1 ∧ gt hc 1 k 0 = gt hc 1 k 1 + 1 ∧ ∃ m, zS hc hr (gt hc 1 k 1) m
/-- where an outer ACT stands -/
def EO (hc hr : zH) (k a : Int) (cx : zK) : Prop := k = 0 ∨ (∃ t m : Nat, gt hc 1 k 2 = t ∧ gt hr 72 0 a = (t : Int) + 1 ∧ gt hr 73 0 a = t ∧ zS hc hr (gt hc 1 k 1) m ∧ t < m ∧ zjs hc (gt hc 1 k 1) (t + 1) = cx)
/-- a BLOCK of an ACT -/
def EB (hc hr : zH) (B q k op : Int) (L M : Nat) (cx : zK) : Prop := 1 ≤ k ∧ gt hc 0 B 0 = op ∧ gt hr 68 0 q = op ∧ gt hc 0 B 1 = L ∧ gt hr 69 0 q = L ∧ gt hc 43 (gt hc 1 k 1 + 1) L = op ∧ ∃ m : Nat, zS hc hr (gt hc 1 k 1) m ∧ L ≤ M ∧ M < m ∧ zjs hc (gt hc 1 k 1) L = cx ∧ zjs hc (gt hc 1 k 1) (L + 1) = ((L : Int), (L : Int)) :: cx ∧ zjs hc (gt hc 1 k 1) (M + 1) = ((L : Int), (M : Int)) :: cx
def ES (hc hr : zH) (sid : Int → Int) (q k S : Int) (L : Nat) : Prop := 1 ≤ S ∧ gt hr 70 0 q = sid S ∧ gt hc 9 S 0 = gt hc 1 k 1 ∧ gt hc 9 S 1 = L
def EL (hc hr : zH) (B q : Int) : Prop := gt hc 0 B 2 = gt hr 70 0 q ∧ 0 ≤ gt hc 0 B 2 ∧ gt hc 0 B 2 ≤ 20
def ET (hc hr : zH) (B q k : Int) (M : Nat) : Prop := gt hc 0 B 3 = gt hr 70 0 q ∧ (gt hc 0 B 3 = 0 ∨ gt hc 0 B 3 = 1 ∨ gt hc 0 B 3 = 2) ∧ (gt hc 0 B 3 = 2 ↔ gt hc 43 (gt hc 1 k 1 + 1) M = 15) ∧
  (gt hc 0 B 3 = 1 → gt hc 0 B 4 = gt hr 72 0 q ∧ 0 ≤ gt hc 0 B 4 ∧ gt hc 0 B 4 < gt hc 2 0 6) ∧
  (gt hc 0 B 3 = 2 → gt hc 0 B 5 = gt hr 71 0 q ∧ 0 ≤ gt hc 0 B 5 ∧ gt hc 0 B 5 ≤ 3 ∧ (gt hc 0 B 5 = 3 → gt hc 0 B 6 = gt hr 73 0 q ∧ 0 ≤ gt hc 0 B 6 ∧ gt hc 0 B 6 < gt hc 2 0 6))
/-- all BLOCKS, the latest first: so many BLOCKS, ACTS, SCOPES, the ACT's place, the BLOCKS of the ACT by their LINES -/
def Stk (hc hr : zH) (sid : Int → Int) : Nat → Int → Int → Int → zK → Prop
  | 0, k, S, a, cx => k = 0 ∧ S = 0 ∧ a = -1 ∧ cx = []
  | b + 1, k, S, a, cx =>
    (gt hc 0 ((b : Int) + 1) 0 = 17 ∧ EA hc hr sid (b + k) k S ∧ a = b + k - 1 ∧ cx = [] ∧ ∃ a' cx', EO hc hr (k - 1) a' cx' ∧ Stk hc hr sid b (k - 1) (S - 1) a' cx') ∨
    (∃ (L M : Nat) (cx' : zK), cx = ((L : Int), (M : Int)) :: cx' ∧
      ((EB hc hr (b + 1) (b + k) k 12 L M cx' ∧ M = L ∧ ES hc hr sid (b + k) k S L ∧ Stk hc hr sid b k (S - 1) a cx') ∨
       (EB hc hr (b + 1) (b + k) k 11 L M cx' ∧ M = L ∧ EL hc hr (b + 1) (b + k) ∧ Stk hc hr sid b k S a cx') ∨
       (EB hc hr (b + 1) (b + k) k 13 L M cx' ∧ ET hc hr (b + 1) (b + k) k M ∧ Stk hc hr sid b k S a cx')))
theorem Stk.bd {hc hr : zH} {sid : Int → Int} : ∀ {b : Nat} {k S a : Int} {cx : zK}, Stk hc hr sid b k S a cx → 0 ≤ k ∧ 0 ≤ S ∧ S ≤ b ∧ k ≤ b ∧ a < b + k ∧ cx.length ≤ 8 ∧ (k = 0 → b = 0) ∧ (1 ≤ k → 0 ≤ a ∧ (b : Int) ≤ 9 * (k - 1) + 1 + cx.length ∧ 1 ≤ S)
  | 0, k, S, a, cx, h => by
    obtain ⟨rfl, rfl, rfl, rfl⟩ := h
    refine ⟨by decide, by decide, by decide, by decide, by decide, by decide, fun _ => rfl, fun z => by omega⟩
  | b + 1, k, S, a, cx, h => by
    rcases h with ⟨h1, h2, h3, h4, a', cx', h5, h6⟩ | ⟨L, M, cx', rfl, h | h | h⟩
    · obtain ⟨i1, i2, i3, i4, i5, i6, i7, i8⟩ := h6.bd
      have k1 := h2.1
      have s1 := h2.2.1
      rw [h4]
      refine ⟨by omega, by omega, by omega, by omega, by omega, Nat.zero_le _, fun z => by omega, fun _ => ⟨by omega, ?_, s1⟩⟩
      show ((b + 1 : Nat) : Int) ≤ 9 * (k - 1) + 1 + ((0 : Nat) : Int)
      by_cases c : 1 ≤ k - 1
      · have := (i8 c).2.1; omega
      · have := i7 (by omega); omega
    · obtain ⟨h1, h2, h3, h4⟩ := h
      obtain ⟨i1, i2, i3, i4, i5, i6, i7, i8⟩ := h4.bd
      have k1 := h1.1
      have s1 := h3.1
      obtain ⟨m, _, _, _, _, l1, _⟩ := h1.2.2.2.2.2.2
      have len := jst_len (gt hc 43 (gt hc 1 k 1 + 1)) (gt hc 44 (gt hc 1 k 1 + 1)) (gt hc 45 (gt hc 1 k 1 + 1)) (L + 1)
      have l1 : js (gt hc 43 (gt hc 1 k 1 + 1)) (gt hc 44 (gt hc 1 k 1 + 1)) (gt hc 45 (gt hc 1 k 1 + 1)) (L + 1) = _ := l1
      rw [l1] at len
      simp only [List.length_cons] at len ⊢
      have := (i8 k1).1
      have := (i8 k1).2.1
      clear l1
      refine ⟨by omega, by omega, by omega, by omega, by omega, len, fun z => by omega, fun _ => ⟨by omega, by omega, s1⟩⟩
    · obtain ⟨h1, h2, h3, h4⟩ := h
      obtain ⟨i1, i2, i3, i4, i5, i6, i7, i8⟩ := h4.bd
      have k1 := h1.1
      obtain ⟨m, _, _, _, _, l1, _⟩ := h1.2.2.2.2.2.2
      have len := jst_len (gt hc 43 (gt hc 1 k 1 + 1)) (gt hc 44 (gt hc 1 k 1 + 1)) (gt hc 45 (gt hc 1 k 1 + 1)) (L + 1)
      have l1 : js (gt hc 43 (gt hc 1 k 1 + 1)) (gt hc 44 (gt hc 1 k 1 + 1)) (gt hc 45 (gt hc 1 k 1 + 1)) (L + 1) = _ := l1
      rw [l1] at len
      simp only [List.length_cons] at len ⊢
      have := (i8 k1).1
      have := (i8 k1).2
      clear l1
      refine ⟨by omega, by omega, by omega, by omega, by omega, len, fun z => by omega, fun _ => ⟨by omega, by omega, by omega⟩⟩
    · obtain ⟨h1, h3, h4⟩ := h
      obtain ⟨i1, i2, i3, i4, i5, i6, i7, i8⟩ := h4.bd
      have k1 := h1.1
      obtain ⟨m, _, _, _, _, l1, _⟩ := h1.2.2.2.2.2.2
      have len := jst_len (gt hc 43 (gt hc 1 k 1 + 1)) (gt hc 44 (gt hc 1 k 1 + 1)) (gt hc 45 (gt hc 1 k 1 + 1)) (L + 1)
      have l1 : js (gt hc 43 (gt hc 1 k 1 + 1)) (gt hc 44 (gt hc 1 k 1 + 1)) (gt hc 45 (gt hc 1 k 1 + 1)) (L + 1) = _ := l1
      rw [l1] at len
      simp only [List.length_cons] at len ⊢
      have := (i8 k1).1
      have := (i8 k1).2
      clear l1
      refine ⟨by omega, by omega, by omega, by omega, by omega, len, fun z => by omega, fun _ => ⟨by omega, by omega, by omega⟩⟩
theorem Stk.sk {hc hr : zH} {sid : Int → Int} : ∀ {b : Nat} {k S a : Int} {cx : zK}, Stk hc hr sid b k S a cx → ∀ p : Nat, (p : Int) = b + k → SK hr sid p S
  | 0, k, S, a, cx, h, p, hp => by
    obtain ⟨rfl, rfl, rfl, rfl⟩ := h
    have : p = 0 := by omega
    subst this
    exact rfl
  | b + 1, k, S, a, cx, h, p, hp => by
    have k0 := h.bd.1
    rcases h with ⟨h1, h2, h3, h4, a', cx', h5, h6⟩ | ⟨L, M, cx', rfl, h | h | h⟩
    · obtain ⟨x1, x2, x3, x4, x5, x6, x7, _⟩ := h2
      obtain ⟨p', rfl⟩ : ∃ p', p = p' + 2 := ⟨p - 2, by omega⟩
      have e1 : (b : Int) + k = ((p' + 1 : Nat) : Int) := by omega
      have e2 : (b : Int) + k - 1 = (p' : Int) := by omega
      refine Or.inl ⟨by rw [← e1]; exact x5, by rw [← e1]; exact x7, x2, Or.inr ⟨?_, h6.sk p' (by omega)⟩⟩
      rw [← e2, x3]; decide
    · obtain ⟨⟨y1, y2, y3, _⟩, h2, ⟨z1, z2, _⟩, h4⟩ := h
      obtain ⟨p', rfl⟩ : ∃ p', p = p' + 1 := ⟨p - 1, by omega⟩
      have e1 : (b : Int) + k = (p' : Int) := by omega
      exact Or.inl ⟨by rw [← e1]; exact y3, by rw [← e1]; exact z2, z1, h4.sk p' (by omega)⟩
    · obtain ⟨⟨y1, y2, y3, _⟩, h2, h3, h4⟩ := h
      obtain ⟨p', rfl⟩ : ∃ p', p = p' + 1 := ⟨p - 1, by omega⟩
      have e1 : (b : Int) + k = (p' : Int) := by omega
      exact Or.inr ⟨by rw [← e1, y3]; decide, h4.sk p' (by omega)⟩
    · obtain ⟨⟨y1, y2, y3, _⟩, h3, h4⟩ := h
      obtain ⟨p', rfl⟩ : ∃ p', p = p' + 1 := ⟨p - 1, by omega⟩
      have e1 : (b : Int) + k = (p' : Int) := by omega
      exact Or.inr ⟨by rw [← e1, y3]; decide, h4.sk p' (by omega)⟩
/-- the ACT that is under way -/
theorem Stk.ac {hc hr : zH} {sid : Int → Int} : ∀ {b : Nat} {k S a : Int} {cx : zK}, Stk hc hr sid b k S a cx → 1 ≤ k → gt hr 68 0 a = 17 ∧ gt hr 70 0 a = gt hc 1 k 1 ∧ gt hc 1 k 0 = gt hc 1 k 1 + 1 ∧ (∃ m, zS hc hr (gt hc 1 k 1) m) ∧ ∀ j : Int, a < j → j < b + k → gt hr 68 0 j ≠ 17
  | 0, k, S, a, cx, h, k1 => by
    have := h.1
    omega
  | b + 1, k, S, a, cx, h, k1 => by
    have up : ∀ {cx' : zK} {S' : Int} {op : Int}, Stk hc hr sid b k S' a cx' → op ≠ 17 → gt hr 68 0 (b + k) = op → gt hr 68 0 a = 17 ∧ gt hr 70 0 a = gt hc 1 k 1 ∧ gt hc 1 k 0 = gt hc 1 k 1 + 1 ∧ (∃ m, zS hc hr (gt hc 1 k 1) m) ∧ ∀ j : Int, a < j → j < ((b + 1 : Nat) : Int) + k → gt hr 68 0 j ≠ 17 := fun {cx' S' op} t o e => by
      obtain ⟨x1, x2, x3, x4, x5⟩ := t.ac k1
      refine ⟨x1, x2, x3, x4, fun j ja jb => ?_⟩
      by_cases c : j = b + k
      · rw [c, e]; exact o
      · exact x5 j ja (by omega)
    rcases h with ⟨h1, h2, h3, h4, a', cx', h5, h6⟩ | ⟨L, M, cx', rfl, h | h | h⟩
    · obtain ⟨x1, x2, x3, x4, x5, x6, x7, x8, x9, x10, x11⟩ := h2
      rw [h3]
      refine ⟨x3, x4, x10, x11, fun j ja jb => ?_⟩
      have : j = b + k := by omega
      rw [this, x5]; decide
    · exact up h.2.2.2 (by decide) h.1.2.2.1
    · exact up h.2.2.2 (by decide) h.1.2.2.1
    · exact up h.2.2 (by decide) h.1.2.2.1
theorem Stk.cg {hc hr hc' hr' : zH} {sid sid' : Int → Int} {x : Int} (s43 : gt hc' 43 = gt hc 43) (s44 : gt hc' 44 = gt hc 44) (s45 : gt hc' 45 = gt hc 45) (s11 : gt hc' 11 0 2 = gt hc 11 0 2) (s62 : gt hr' 62 0 = gt hr 62 0) (sf : gt hc 2 0 6 ≤ gt hc' 2 0 6) :
    ∀ {b : Nat} {k S a : Int} {cx : zK}, Stk hc hr sid b k S a cx → (x = a ∨ b + k ≤ x) → (∀ i : Int, 1 ≤ i → i ≤ b → ∀ j, gt hc' 0 i j = gt hc 0 i j) → (∀ i : Int, 1 ≤ i → i ≤ k → gt hc' 1 i 0 = gt hc 1 i 0 ∧ gt hc' 1 i 1 = gt hc 1 i 1 ∧ (i < k → gt hc' 1 i 2 = gt hc 1 i 2)) → (∀ i : Int, 1 ≤ i → i ≤ S → gt hc' 9 i 0 = gt hc 9 i 0 ∧ gt hc' 9 i 1 = gt hc 9 i 1 ∧ sid' i = sid i) →
      (∀ j : Int, 0 ≤ j → j < b + k → gt hr' 68 0 j = gt hr 68 0 j ∧ gt hr' 69 0 j = gt hr 69 0 j ∧ gt hr' 70 0 j = gt hr 70 0 j ∧ gt hr' 71 0 j = gt hr 71 0 j ∧ (j ≠ x → gt hr' 72 0 j = gt hr 72 0 j ∧ gt hr' 73 0 j = gt hr 73 0 j)) → Stk hc' hr' sid' b k S a cx
  | 0, k, S, a, cx, h, _, _, _, _, _ => h
  | b + 1, k, S, a, cx, h, hx, e0, e1, e9, er => by
    have bd := h.bd
    have zs : ∀ n m, zS hc hr n m → zS hc' hr' n m := fun n m z => by
      unfold zS at z ⊢
      rw [s11, s62, s43, s44, s45]; exact z
    have zj : ∀ n t, zjs hc' n t = zjs hc n t := fun n t => by unfold zjs; rw [s43, s44, s45]
    have eb : ∀ {op : Int} {L M : Nat} {cx' : zK}, EB hc hr (b + 1) (b + k) k op L M cx' → EB hc' hr' (b + 1) (b + k) k op L M cx' := fun {op L M cx'} z => by
      obtain ⟨z1, z2, z3, z4, z5, z6, m, z7, z8⟩ := z
      have q := er (b + k) (by omega) (by omega)
      have c := e1 k z1 (Int.le_refl k)
      unfold EB
      rw [e0 _ (by omega) (by omega), e0 _ (by omega) (by omega), q.1, q.2.1, c.2.1, s43]
      exact ⟨z1, z2, z3, z4, z5, z6, m, zs _ _ z7, by rw [zj, zj, zj]; exact z8⟩
    rcases h with ⟨h1, h2, h3, h4, a', cx', h5, h6⟩ | ⟨L, M, cx', rfl, h | h | h⟩
    · have b6 := h6.bd
      obtain ⟨x1, x2, x3, x4, x5, x6, x7, x8, x9, x10, m, x11⟩ := h2
      have q := er (b + k) (by omega) (by omega)
      have q' := er (b + k - 1) (by omega) (by omega)
      have c := e1 k x1 (Int.le_refl k)
      have c9 := e9 S x2 (Int.le_refl S)
      refine Or.inl ⟨by rw [e0 _ (by omega) (by omega)]; exact h1, ?_, h3, h4, a', cx', ?_, ?_⟩
      · unfold EA
        rw [q'.1, q'.2.2.1, q.1, q.2.1, q.2.2.1, c.1, c.2.1, c9.1, c9.2.1, c9.2.2]
        exact ⟨x1, x2, x3, x4, x5, x6, x7, x8, x9, x10, m, zs _ _ x11⟩
      · rcases h5 with z | ⟨t, m', z1, z2, z3, z4, z5, z6⟩
        · exact Or.inl z
        · by_cases k1 : k - 1 = 0
          · exact Or.inl k1
          · have a0 := (b6.2.2.2.2.2.2.2 (by omega)).1
            have al := b6.2.2.2.2.1
            have qa := (er a' a0 (by omega)).2.2.2.2 (by omega)
            have c' := e1 (k - 1) (by omega) (by omega)
            refine Or.inr ⟨t, m', ?_⟩
            rw [c'.2.2 (by omega), c'.2.1, qa.1, qa.2, zj]
            exact ⟨z1, z2, z3, zs _ _ z4, z5, z6⟩
      · exact h6.cg s43 s44 s45 s11 s62 sf (Or.inr (by omega)) (fun i i1 i2 => e0 i i1 (by omega)) (fun i i1 i2 => ⟨(e1 i i1 (by omega)).1, (e1 i i1 (by omega)).2.1, fun i3 => (e1 i i1 (by omega)).2.2 (by omega)⟩) (fun i i1 i2 => e9 i i1 (by omega)) (fun j j0 j1 => er j j0 (by omega))
    · obtain ⟨h1, h2, h3, h4⟩ := h
      have k1 := h1.1
      have q := er (b + k) (by omega) (by omega)
      have c := e1 k k1 (Int.le_refl k)
      have c9 := e9 S h3.1 (Int.le_refl S)
      refine Or.inr ⟨L, M, cx', rfl, Or.inl ⟨eb h1, h2, ?_, h4.cg s43 s44 s45 s11 s62 sf (by omega) (fun i i1 i2 => e0 i i1 (by omega)) e1 (fun i i1 i2 => e9 i i1 (by omega)) (fun j j0 j1 => er j j0 (by omega))⟩⟩
      unfold ES
      rw [q.2.2.1, c.2.1, c9.1, c9.2.1, c9.2.2]
      exact h3
    · obtain ⟨h1, h2, h3, h4⟩ := h
      have k1 := h1.1
      have q := er (b + k) (by omega) (by omega)
      refine Or.inr ⟨L, M, cx', rfl, Or.inr (Or.inl ⟨eb h1, h2, ?_, h4.cg s43 s44 s45 s11 s62 sf (by omega) (fun i i1 i2 => e0 i i1 (by omega)) e1 e9 (fun j j0 j1 => er j j0 (by omega))⟩)⟩
      unfold EL
      rw [q.2.2.1, e0 _ (by omega) (by omega)]
      exact h3
    · obtain ⟨h1, h3, h4⟩ := h
      have k1 := h1.1
      have b4 := h4.bd
      have c := e1 k k1 (Int.le_refl k)
      have q := er (b + k) (by omega) (by omega)
      have q2 := q.2.2.2.2 (by omega)
      refine Or.inr ⟨L, M, cx', rfl, Or.inr (Or.inr ⟨eb h1, ?_, h4.cg s43 s44 s45 s11 s62 sf (by omega) (fun i i1 i2 => e0 i i1 (by omega)) e1 e9 (fun j j0 j1 => er j j0 (by omega))⟩)⟩
      obtain ⟨t1, t2, t3, t4, t5⟩ := h3
      unfold ET
      simp only [q.2.2.1, q.2.2.2.1, q2.1, q2.2, c.2.1, s43, e0 ((b : Int) + 1) (by omega) (by omega)]
      refine ⟨t1, t2, t3, fun z => ⟨(t4 z).1, (t4 z).2.1, by have := (t4 z).2.2; omega⟩, fun z => ⟨(t5 z).1, (t5 z).2.1, (t5 z).2.2.1, fun w => ⟨((t5 z).2.2.2 w).1, ((t5 z).2.2.2 w).2.1, by have := ((t5 z).2.2.2 w).2.2; omega⟩⟩⟩
