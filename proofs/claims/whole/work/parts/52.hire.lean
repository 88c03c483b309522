/-! LEND, and hiring out -/
theorem RC.s0 {hc hr : zH} {p s : Int} (k : RC hc hr) (st : gt hr 52 0 p ≠ 2) : RC (pt hc 6 p 3 s) (pt hr 52 0 p s) := by
  obtain ⟨c1, c2, c3, c4, c5⟩ := k
  refine ⟨c1, c2, c3, fun i a b => ?_, c5⟩
  obtain ⟨w1, w2, w3, w4⟩ := c4 i a b
  refine ⟨w1, w2, w3, ?_⟩
  have g4 : gt (pt hr 52 0 p s) 52 0 (gt (pt hr 52 0 p s) 53 0 i) = if gt hr 53 0 i = p then s else gt hr 52 0 (gt hr 53 0 i) := by
    show gt (pt hr 52 0 p s) 52 0 (gt hr 53 0 i) = _
    by_cases z : gt hr 53 0 i = p <;> simp [gt_pt, z]
  rw [g4, if_neg]
  · exact w4
  · intro z; rw [z] at w4; exact st w4
theorem zSum_n {f g : Int → Int} {n : Nat} (E : ∀ k : Int, 0 ≤ k → k < n → f k = g k) : zSum f (n + 1) = zSum g n + f n := by
  have e : zSum f (n + 1) = zSum f n + f n := rfl
  rw [e, zSum_cg n E]
/-- CR but for one LOAN's TRACE -/
def PTx (n : Nat) (x : Int) (hc hr : zH) : Prop := ∀ l, zU n hr l → l ≠ x → gt hr 76 0 l = 1 → gt hc 6 (gt hr 75 0 l) 7 = gt hr 81 0 l ∧ 0 ≤ gt hr 81 0 l ∧ gt hr 81 0 l ≤ 10 ∧ ∀ k : Int, 0 ≤ k → k < gt hr 81 0 l → gt hc 34 (gt hr 75 0 l) k = gt hr 82 0 (20 * l + 2 * k) ∧ gt hc 35 (gt hr 75 0 l) k = gt hr 82 0 (20 * l + 2 * k + 1)
def CQ (B : Int) (n : Nat) (S c : Int) (sid : Int → Int) (x : Int) (hc hr : zH) : Prop :=
  PIc hc ∧ PIr hr ∧ ST hc ∧ SC hc ∧ RP hc hr ∧ RC hc hr ∧ RPl hc hr ∧ RLg (B + n - zSum (gt hr 80 0) n) hc hr ∧ RCh hc hr ∧ RSx hc hr ∧
  (gt hc 8 0 9 = n ∧ gt hr 12 0 34 = n ∧ gt hr 12 0 56 = n ∧ n ≤ 160 ∧ gt hc 8 0 11 = c ∧ gt hr 12 0 61 = c ∧ 0 ≤ c ∧ c < 8 ∧ 0 ≤ B ∧ B ≤ 900000) ∧ LN n S (-1) sid hc hr ∧ PU n c hc hr ∧ PH n hc hr ∧ PL hc hr ∧ PTx n x hc hr
theorem CQ.cr {B : Int} {n : Nat} {S c : Int} {sid : Int → Int} {x : Int} {hc hr : zH} (X : CQ B n S c sid x hc hr) (T : gt hr 76 0 x = 1 → zU n hr x → gt hc 6 (gt hr 75 0 x) 7 = gt hr 81 0 x ∧ 0 ≤ gt hr 81 0 x ∧ gt hr 81 0 x ≤ 10 ∧ ∀ k : Int, 0 ≤ k → k < gt hr 81 0 x → gt hc 34 (gt hr 75 0 x) k = gt hr 82 0 (20 * x + 2 * k) ∧ gt hc 35 (gt hr 75 0 x) k = gt hr 82 0 (20 * x + 2 * k + 1)) : CR B n S c sid hc hr := by
  obtain ⟨a1, a2, a3, a4, a5, a6, a7, a8, a9, a10, a11, K, U, H, L, T'⟩ := X
  refine ⟨a1, a2, a3, a4, a5, a6, a7, a8, a9, a10, a11, K, U, H, L, fun l Ul o => ?_⟩
  by_cases z : l = x
  · rw [z] at Ul o ⊢; exact T o Ul
  · exact T' l Ul z o
abbrev mMk : List (Nat × Int) := [(4, 0), (4, 1), (4, 2), (4, 3), (4, 4), (4, 5), (4, 6), (4, 7), (9, 2), (8, 9)]
theorem m_lend {B : Int} {n : Nat} {S c l k s : Int} {sid : Int → Int} {p : Nat} {hc hr : zH} (X : CR B n S c sid hc hr) (n160 : n < 160) (Q : SK hr sid p S) (p150 : p ≤ 150) (e25 : gt hr 12 0 25 = p) (h7 : gt hc 8 0 7 = S) (s1 : 1 ≤ S) (s90 : S ≤ 90) (sl : 0 ≤ s ∧ s < 8) (kb : 1 ≤ k ∧ k ≤ 10) (od : 0 ≤ gt hr 12 0 43 ∧ gt hr 12 0 43 ≤ 1000)
    (l0 : 0 ≤ l) (l1 : l < n) (op : gt hr 80 0 l = 1) (fr : gt hc 4 l 4 = -1) :
    ∃ hc' hr', F_X8_makeLoan 0 k s (gt hr 75 0 l) 2 l hc = some (0, hc') ∧ F_X12_newLoan 0 (gt hr 75 0 l) 2 l hr = some ((n : Int), hr') ∧ zFx [20] mMk hc hc' ∧ zFx [75, 76, 77, 78, 79, 80] [(12, 34), (12, 43), (12, 56)] hr hr' ∧ CR B (n + 1) S c sid hc' hr' ∧ gt hr' 12 0 43 = gt hr 12 0 43 + 1 ∧ (∀ i j, gt hc' 20 i j = if i = k ∧ j = s then (n : Int) else gt hc 20 i j) := by
  obtain ⟨a1, a2, a3, a4, a5, a6, a7, a8, a9, a10, ⟨b1, b2, b3, b4, b5, b6, b7, b8, b9, b10⟩, K, U, H, L, T⟩ := X
  obtain ⟨⟨m1, m2, m3, m4, m5, m6, m7, m8⟩, _, _⟩ := K.1 l l0 l1
  have p60 := a5.2.2.1
  have pe := a5.1
  have lb : gt hc 9 S 2 = -1 ∨ (0 ≤ gt hc 9 S 2 ∧ gt hc 9 S 2 < n) := by
    rcases K.2.2.2 S s1 (Int.le_refl S) with ⟨v, _⟩ | ⟨v, _⟩
    · exact Or.inl v
    · exact Or.inr ⟨v.1.1, v.1.2.1⟩
  obtain ⟨hc', c1, c2, c3, c4, c5, c6, c7⟩ := c_make (p := gt hr 75 0 l) (so := 2) a1 a4 b1 n160 h7 s1 s90 sl kb (Or.inr ⟨l0, l1⟩) lb
  obtain ⟨hr', r1, r2, r3, r4, r5, r6, r7, r8, r9, r10, r11, r12⟩ := r_make (q := gt hr 75 0 l) (so := 2) (oo := l) (od := gt hr 12 0 43) a2 Q p150 e25 s1 b2 b3 n160 rfl od ⟨m4, by omega⟩
  rw [if_pos rfl] at r1
  have e0 : gt hr' 12 0 0 = gt hr 12 0 0 := r2 12 0 (by simp) (by decide) 0
  have K' : LN (n + 1) S (-1) sid hc' hr' := K.nw (p := gt hr 75 0 l) (so := 2) (pa := l) (od := gt hr 12 0 43) s1 (by omega) m4 m5 e0 (fun _ => ⟨l0, l1, op, fr, rfl⟩) (fun z => absurd rfl z) c5 c6 c7 rfl r6 r7 r8 r9 r10 r11 r12
  have en : FrN hc hc' := nf_X8_makeLoan c1
  have EU : ∀ x, zU (n + 1) hr' x ↔ zU n hr x := fun x => by
    unfold zU
    rw [r12 x, r8 x]
    by_cases z : x = n
    · rw [if_pos z, if_pos z]
      constructor
      · rintro ⟨_, _, _, y⟩; exact absurd rfl y
      · rintro ⟨_, y, _⟩; omega
    · rw [if_neg z, if_neg z]
      constructor
      · rintro ⟨y1, y2, y3⟩; exact ⟨y1, by omega, y3⟩
      · rintro ⟨y1, y2, y3⟩; exact ⟨y1, by omega, y3⟩
  have nU : ∀ x, zU n hr x → x ≠ n := fun x y z => by have := y.2.1; omega
  have EG : ∀ x : Int, 0 ≤ x → x < n → zLg hr' x = zLg hr x := fun x x0 xn => by
    unfold zLg
    have z : ¬ x = (n : Int) := by omega
    rw [r12, r8, if_neg z, if_neg z]
  have EC : ∀ m : Nat, m ≤ n → zLc hr' m = zLc hr m := fun m hm => zSum_cg m fun j j0 jm => EG j j0 (by omega)
  have EC1 : zLc hr' (n + 1) = zLc hr n := by
    have e : zLc hr' (n + 1) = zLc hr' n + zLg hr' n := rfl
    have g : zLg hr' n = 0 := by unfold zLg; rw [r8, if_pos rfl]; simp
    rw [e, g, EC n (Nat.le_refl n)]; omega
  have ez : zSum (gt hr' 80 0) (n + 1) = zSum (gt hr 80 0) n + 1 := by
    rw [zSum_n (g := gt hr 80 0) (fun k k0 kn => by rw [r12, if_neg (by omega)]), r12, if_pos rfl]
  have g : ∀ q : Nat, ([75, 76, 77, 78, 79, 80] : List Nat).contains q = false → q ≠ 12 → gt hr' q 0 = gt hr q 0 := fun q z z2 => by
    funext j
    refine r2 q j (by simpa using z) (fun w => ?_) 0
    simp [z2] at w
  have e62 : gt hr' 12 0 62 = gt hr 12 0 62 := r2 12 62 (by simp) (by decide) 0
  refine ⟨hc', hr', c1, r1, c2, r2, ⟨a1.fr c2 rfl, a2.fr r2 rfl, a3.fr c2 rfl, a4.fr c2 rfl en.1, a5.fr c2 rfl r2 rfl, a6.fr c2 rfl r2 rfl, a7.fr c2 rfl r2 rfl, ?_, a9.fr c2 rfl r2 rfl, a10.fr c2 rfl r2 rfl, ⟨c3, r4, r5, by omega, by rw [c2 8 11 (by simp) (by decide) 0]; exact b5, by rw [r2 12 61 (by simp) (by decide) 0]; exact b6, b7, b8, b9, b10⟩, K', ?_, ?_, ?_, ?_⟩, r6, c4⟩
  · rw [ez]
    exact (a8.fr c2 rfl r2 rfl).up (by omega)
  · obtain ⟨u1, u2, u3⟩ := U
    unfold PU
    rw [e0, e62, g 52 rfl (by decide), g 89 rfl (by decide)]
    simp only [EU, c2 6 4 (by simp) (by decide)]
    refine ⟨fun x y => ?_, fun x x' y y' => ?_, fun q q0 q1 q2 => ?_⟩
    · rw [r7, if_neg (nU x y)]; exact u1 x y
    · rw [r7, r7, if_neg (nU x y), if_neg (nU x' y')]; exact u2 x x' y y'
    · rcases u3 q q0 q1 q2 with z | ⟨x, z1, z2⟩
      · exact Or.inl z
      · exact Or.inr ⟨x, z1, by rw [r7, if_neg (nU x z1)]; exact z2⟩
  · obtain ⟨h1, h2, h3, h4⟩ := H
    unfold PH
    rw [e0, e62, g 52 rfl (by decide), EC1, c2 3 5 (by simp) (by decide) 0]
    simp only [EU, c2 29 _ (by simp) (by simp)]
    refine ⟨h1, fun x xn o1 o2 => ?_, fun i i0 i1 => ?_, h4⟩
    · have xn' : x ≠ n := fun z => by
        have : gt hr' 76 0 x = 2 := by rw [r8, if_pos (by rw [z])]
        omega
      have xl : x < n := by omega
      rw [r12, if_neg (by omega)] at o1
      rw [r8, if_neg (by omega)] at o2
      rw [EC x (by omega), r7, if_neg (by omega)]
      exact h2 x xl o1 o2
    · obtain ⟨t1, t2, t3, t4⟩ := h3 i i0 i1
      refine ⟨t1, t2, t3, fun x y o => ?_⟩
      rw [r8, if_neg (nU x y)] at o
      rw [r7, if_neg (nU x y)]; exact t4 x y o
  · exact L.rm (p := -1) e62 e0 (g 89 rfl (by decide)) (g 90 rfl (by decide)) (g 91 rfl (by decide)) (g 92 rfl (by decide)) (fun q => ⟨c2 6 4 (by simp) (by decide) q, c2 6 7 (by simp) (by decide) q⟩) (by funext i j; exact c2 34 j (by simp) (by simp) i) (by funext i j; exact c2 35 j (by simp) (by simp) i) (fun k _ _ => c2 29 k (by simp) (by simp) 0) (fun i x y => by have := (L.2.1 i x y).2.1; omega) (fun q _ => by rw [g 52 rfl (by decide)])
  · intro x y o
    have y := (EU x).mp y
    rw [r8, if_neg (nU x y)] at o
    rw [r7, if_neg (nU x y), g 81 rfl (by decide), g 82 rfl (by decide), c2 6 7 (by simp) (by decide)]
    have t34 : gt hc' 34 = gt hc 34 := by funext i j; exact c2 34 j (by simp) (by simp) i
    have t35 : gt hc' 35 = gt hc 35 := by funext i j; exact c2 35 j (by simp) (by simp) i
    rw [t34, t35]
    exact T x y o
/-- a PART goes out -/
theorem m_hire {B : Int} {n : Nat} {S c q so k s : Int} {sid : Int → Int} {p : Nat} {hc hr : zH} (X : CR B n S c sid hc hr) (n160 : n < 160) (Q : SK hr sid p S) (p150 : p ≤ 150) (e25 : gt hr 12 0 25 = p) (h7 : gt hc 8 0 7 = S) (s1 : 1 ≤ S) (s90 : S ≤ 90) (sl : 0 ≤ s ∧ s < 8) (kb : 1 ≤ k ∧ k ≤ 10) (od : 0 ≤ gt hr 12 0 43 ∧ gt hr 12 0 43 ≤ 1000)
    (q0 : 0 ≤ q) (q1 : q < gt hr 12 0 0) (st : gt hr 52 0 q = 0) (so01 : so = 0 ∨ so = 1) :
    ∃ hc1 hc' hr', F_X3_giveOut 0 q c so hc = some (0, hc1) ∧ F_X8_makeLoan 0 k s q so (-1) hc1 = some (0, hc') ∧ F_X12_newLoan 0 q so (-1) hr = some ((n : Int), hr') ∧ zFx [20, 29] ([(6, 3), (6, 4), (6, 7), (3, 5)] ++ mMk) hc hc' ∧ zFx [52, 75, 76, 77, 78, 79, 80] [(12, 34), (12, 43), (12, 56)] hr hr' ∧ CQ B (n + 1) S c sid n hc' hr' ∧ gt hr' 12 0 43 = gt hr 12 0 43 + 1 ∧ (∀ i j, gt hc' 20 i j = if i = k ∧ j = s then (n : Int) else gt hc 20 i j) ∧ gt hc' 6 q 7 = 0 ∧ gt hr' 75 0 n = q ∧ gt hr' 76 0 n = so ∧ gt hr' 80 0 n = 1 := by
  obtain ⟨a1, a2, a3, a4, a5, a6, a7, a8, a9, a10, ⟨b1, b2, b3, b4, b5, b6, b7, b8, b9, b10⟩, K, U, H, L, T⟩ := X
  have p60 := a5.2.2.1
  have pe := a5.1
  obtain ⟨hh0, hh1, hh2⟩ := H.le L.1 a5
  -- the PART isn't held, nor out
  have nh : ∀ i, 0 ≤ i → i < gt hc 3 0 5 → gt hc 29 0 i ≠ q := fun i i0 i1 z => by
    have := (H.2.2.1 i i0 i1).2.2.1
    rw [z, st] at this; cases this
  have nu : ∀ x, zU n hr x → gt hr 75 0 x ≠ q := fun x y z => by
    have := (U.1 x y).1
    rw [z, st] at this; cases this
  have nl : ∀ i, 0 ≤ i → i < gt hr 12 0 62 → gt hr 89 0 i ≠ q := fun i i0 i1 z => by
    have := (L.2.1 i i0 i1).2.2.2.1
    rw [z, st] at this; cases this
  have hroom : gt hc 3 0 5 < gt hr 12 0 0 := by
    obtain ⟨m, hm⟩ : ∃ m : Nat, (m : Int) = gt hc 3 0 5 := ⟨(gt hc 3 0 5).toNat, by omega⟩
    obtain ⟨w, hw⟩ : ∃ w : Nat, (w : Int) = gt hr 12 0 0 := ⟨(gt hr 12 0 0).toNat, by omega⟩
    have := zPig (lp := fun i => if i < m then gt hc 29 0 i else q) (m := m + 1) (n := w) (fun i x y => by
      by_cases z : i < m
      · have := H.2.2.1 i x (by omega)
        simp only [if_pos z]
        exact ⟨this.1, by omega⟩
      · simp only [if_neg z]
        exact ⟨q0, by omega⟩) (fun i j x y w' => by
      have z : i < m := by omega
      simp only [if_pos z]
      by_cases v : j < m
      · simp only [if_pos v]
        exact H.2.2.2 i j x y (by omega)
      · simp only [if_neg v]
        exact nh i x (by omega))
    omega
  have rh : -1000000 ≤ gt hc 3 0 5 + 1 ∧ gt hc 3 0 5 + 1 ≤ 1000000 := by omega
  have q6 : gt hc 6 q 0 = q := (a4.2.2.2.1 q q0 (by omega)).2.1
  obtain ⟨A, hA⟩ : ∃ A, A = pt (pt (pt hc 6 q 3 1) 6 q 4 c) 6 q 7 0 := ⟨_, rfl⟩
  obtain ⟨hc1, h1⟩ : ∃ hc1, hc1 = if so = 0 then A else pt (pt A 29 0 (gt hc 3 0 5) q) 3 0 5 (gt hc 3 0 5 + 1) := ⟨_, rfl⟩
  have eg : F_X3_giveOut 0 q c so hc = some (0, hc1) := by
    unfold F_X3_giveOut F_X3_giveOut_0
    rw [if_pos q0, h1]
    by_cases z : so = 0
    · rw [if_pos z, if_pos z, hA]
    · have hb : 0 ≤ gt hc 3 0 5 ∧ gt hc 3 0 5 < 60 := by omega
      have t1 : gt A 3 0 5 = gt hc 3 0 5 ∧ gt A 3 0 4 = gt hc 3 0 4 ∧ gt A 6 q 0 = gt hc 6 q 0 := by rw [hA]; simp [gt_pt]
      have t2 : gt (pt A 29 0 (gt hc 3 0 5) q) 3 0 5 = gt hc 3 0 5 := t1.1
      rw [if_neg z, if_neg z, if_pos (by decide), ← hA, t1.1, s_within, if_pos hb]
      simp only [zb, zl]
      rw [if_neg (by decide), t1.2.1, pc_3_4 a1, if_pos (by decide), t1.1, if_pos hb, t1.2.2, q6, t2, wI_s rh]
  have f0 : zFx [29] [(6, 4), (6, 7), (3, 5)] (pt hc 6 q 3 1) hc1 := by
    rw [h1]; split
    · rw [hA]; exact ((zFx.rf _).p2 rfl).p2 rfl
    · rw [hA]; exact ((((zFx.rf _).p2 rfl).p2 rfl).p1 rfl).p2 rfl
  have f1 : zFx [29] [(6, 3), (6, 4), (6, 7), (3, 5)] hc hc1 := (((zFx.rf hc).p2 rfl : zFx [29] [(6, 3), (6, 4), (6, 7), (3, 5)] hc (pt hc 6 q 3 1))).tr (f0.wk rfl rfl)
  have n1 : FrN hc hc1 := nf_X3_giveOut eg
  have v6 : ∀ x, gt hc1 6 x 4 = (if x = q then c else gt hc 6 x 4) ∧ gt hc1 6 x 7 = (if x = q then 0 else gt hc 6 x 7) := fun x => by
    rw [h1]; split
    · rw [hA]; by_cases z : x = q <;> simp [gt_pt, z]
    · rw [hA]; by_cases z : x = q <;> simp [gt_pt, z]
  have v29 : (∀ i, gt hc1 29 0 i = if so = 1 ∧ i = gt hc 3 0 5 then q else gt hc 29 0 i) ∧ gt hc1 3 0 5 = if so = 1 then gt hc 3 0 5 + 1 else gt hc 3 0 5 := by
    rcases so01 with z | z
    · rw [h1, if_pos z]
      refine ⟨fun i => ?_, ?_⟩
      · rw [if_neg (by omega), hA]; simp [gt_pt]
      · rw [if_neg (by omega), hA]; simp [gt_pt]
    · rw [h1, if_neg (by omega)]
      refine ⟨fun i => ?_, ?_⟩
      · by_cases y : i = gt hc 3 0 5
        · rw [if_pos ⟨z, y⟩, y]; simp [gt_pt]
        · rw [if_neg (fun w => y w.2), hA]; simp [gt_pt, y]
      · rw [if_pos z]; simp [gt_pt]
  have lb : gt hc1 9 S 2 = -1 ∨ (0 ≤ gt hc1 9 S 2 ∧ gt hc1 9 S 2 < n) := by
    rw [f1 9 2 (by simp) (by decide) S]
    rcases K.2.2.2 S s1 (Int.le_refl S) with ⟨v, _⟩ | ⟨v, _⟩
    · exact Or.inl v
    · exact Or.inr ⟨v.1.1, v.1.2.1⟩
  have d1 : PIc hc1 := a1.fr f1 rfl
  obtain ⟨hc', c1, c2, c3, c4, c5, c6, c7⟩ := c_make (p := q) (so := so) d1 (a4.fr f1 rfl n1.1) ((f1 8 9 (by simp) (by decide) 0).trans b1) n160 ((f1 8 7 (by simp) (by decide) 0).trans h7) s1 s90 sl kb (Or.inl rfl) lb
  obtain ⟨Z, r1, r2, r3, r4, r5, r6, r7, r8, r9, r10, r11, r12⟩ := r_make (q := q) (so := so) (oo := -1) (od := gt hr 12 0 43) a2 Q p150 e25 s1 b2 b3 n160 rfl od ⟨q0, by omega⟩
  rw [if_neg (by omega)] at r1
  obtain ⟨hr', hr0⟩ : ∃ hr', hr' = pt Z 52 0 q 1 := ⟨_, rfl⟩
  rw [← hr0] at r1
  have gZ : ∀ d i j, d ≠ 52 → gt hr' d i j = gt Z d i j := fun d i j z => by rw [hr0]; simp [gt_pt, z]
  have xr : zFx [52, 75, 76, 77, 78, 79, 80] [(12, 34), (12, 43), (12, 56)] hr hr' := by rw [hr0]; exact (r2.wk rfl rfl : zFx [52, 75, 76, 77, 78, 79, 80] [(12, 34), (12, 43), (12, 56)] hr Z).p1 rfl
  have xr' : zFx [75, 76, 77, 78, 79, 80] [(12, 34), (12, 43), (12, 56)] (pt hr 52 0 q 1) hr' := by rw [hr0]; exact r2.pp _ _ _ _
  have xc : zFx [20, 29] ([(6, 3), (6, 4), (6, 7), (3, 5)] ++ mMk) hc hc' := (f1.wk rfl rfl).tr (c2.wk rfl rfl)
  have xc' : zFx [20, 29] ([(6, 4), (6, 7), (3, 5)] ++ mMk) (pt hc 6 q 3 1) hc' := (f0.wk rfl rfl).tr (c2.wk rfl rfl)
  have e0 : gt hr' 12 0 0 = gt hr 12 0 0 := xr 12 0 (by simp) (by decide) 0
  have e62 : gt hr' 12 0 62 = gt hr 12 0 62 := xr 12 62 (by simp) (by decide) 0
  have R5 : ∀ x, gt hr' 75 0 x = if x = n then q else gt hr 75 0 x := fun x => by rw [gZ _ _ _ (by decide)]; exact r7 x
  have R6 : ∀ x, gt hr' 76 0 x = if x = n then so else gt hr 76 0 x := fun x => by rw [gZ _ _ _ (by decide)]; exact r8 x
  have R7 : ∀ x, gt hr' 77 0 x = if x = n then -1 else gt hr 77 0 x := fun x => by rw [gZ _ _ _ (by decide)]; exact r9 x
  have R8 : ∀ x, gt hr' 78 0 x = if x = n then sid S else gt hr 78 0 x := fun x => by rw [gZ _ _ _ (by decide)]; exact r10 x
  have R9 : ∀ x, gt hr' 79 0 x = if x = n then gt hr 12 0 43 else gt hr 79 0 x := fun x => by rw [gZ _ _ _ (by decide)]; exact r11 x
  have R0 : ∀ x, gt hr' 80 0 x = if x = n then 1 else gt hr 80 0 x := fun x => by rw [gZ _ _ _ (by decide)]; exact r12 x
  have R2 : ∀ x, gt hr' 52 0 x = if x = q then 1 else gt hr 52 0 x := fun x => by
    have z52 : gt Z 52 0 x = gt hr 52 0 x := r2 52 x (by simp) (by simp) 0
    rw [hr0, ← z52]; by_cases z : x = q <;> simp [gt_pt, z]
  have R43 : gt hr' 12 0 43 = gt hr 12 0 43 + 1 := by rw [gZ _ _ _ (by decide)]; exact r6
  have K1 : LN n S (-1) sid hc1 hr := K.fr f1 rfl (zFx.rf (l := []) (m := []) hr) rfl
  have K' : LN (n + 1) S (-1) sid hc' hr' := K1.nw (p := q) (so := so) (pa := -1) (od := gt hr 12 0 43) s1 (by omega) q0 q1 e0 (fun z => by omega) (fun _ => rfl) c5 c6 c7 rfl R43 R5 R6 R7 R8 R9 R0
  have en : FrN hc hc' := n1.tr (nf_X8_makeLoan c1)
  have EU : ∀ x, zU (n + 1) hr' x ↔ (zU n hr x ∨ x = n) := fun x => by
    unfold zU
    rw [R0 x, R6 x]
    by_cases z : x = n
    · rw [if_pos z, if_pos z]
      constructor
      · exact fun _ => Or.inr z
      · exact fun _ => ⟨by omega, by omega, rfl, by omega⟩
    · rw [if_neg z, if_neg z]
      constructor
      · rintro ⟨y1, y2, y3⟩; exact Or.inl ⟨y1, by omega, y3⟩
      · rintro (⟨y1, y2, y3⟩ | y)
        · exact ⟨y1, by omega, y3⟩
        · exact absurd y z
  have nU : ∀ x, zU n hr x → x ≠ n := fun x y z => by have := y.2.1; omega
  have e75 : ∀ x, zU n hr x → gt hr' 75 0 x = gt hr 75 0 x := fun x y => by rw [R5, if_neg (nU x y)]
  have en75 : gt hr' 75 0 n = q := by rw [R5, if_pos rfl]
  have EG : ∀ x : Int, 0 ≤ x → x < n → zLg hr' x = zLg hr x := fun x x0 xn => by
    unfold zLg
    have z : ¬ x = (n : Int) := by omega
    rw [R0, R6, if_neg z, if_neg z]
  have EC : ∀ m : Nat, m ≤ n → zLc hr' m = zLc hr m := fun m hm => zSum_cg m fun j j0 jm => EG j j0 (by omega)
  have EC1 : zLc hr' (n + 1) = zLc hr n + if so = 1 then 1 else 0 := by
    have e : zLc hr' (n + 1) = zLc hr' n + zLg hr' n := rfl
    have g : zLg hr' n = if so = 1 then 1 else 0 := by
      unfold zLg
      rw [R0, R6, if_pos rfl, if_pos rfl]
      rcases so01 with z | z <;> simp [z]
    rw [e, g, EC n (Nat.le_refl n)]
  have ez : zSum (gt hr' 80 0) (n + 1) = zSum (gt hr 80 0) n + 1 := by
    rw [zSum_n (g := gt hr 80 0) (fun k k0 kn => by rw [R0, if_neg (by omega)]), R0, if_pos rfl]
  have g : ∀ d : Nat, ([52, 75, 76, 77, 78, 79, 80] : List Nat).contains d = false → d ≠ 12 → gt hr' d 0 = gt hr d 0 := fun d z z2 => by
    funext j
    refine xr d j (by simpa using z) (fun w => ?_) 0
    simp [z2] at w
  have w6 : ∀ x, gt hc' 6 x 4 = (if x = q then c else gt hc 6 x 4) ∧ gt hc' 6 x 7 = (if x = q then 0 else gt hc 6 x 7) := fun x => by
    rw [c2 6 4 (by simp) (by decide) x, c2 6 7 (by simp) (by decide) x]; exact v6 x
  have w29 : ∀ i, gt hc' 29 0 i = if so = 1 ∧ i = gt hc 3 0 5 then q else gt hc 29 0 i := fun i => by rw [c2 29 i (by simp) (by simp) 0]; exact v29.1 i
  have w35 : gt hc' 3 0 5 = if so = 1 then gt hc 3 0 5 + 1 else gt hc 3 0 5 := by rw [c2 3 5 (by simp) (by decide) 0]; exact v29.2
  have t34 : gt hc' 34 = gt hc 34 := by funext i j; exact xc 34 j (by simp) (by simp) i
  have t35 : gt hc' 35 = gt hc 35 := by funext i j; exact xc 35 j (by simp) (by simp) i
  have w29' : ∀ i, i < gt hc 3 0 5 → gt hc' 29 0 i = gt hc 29 0 i := fun i z => by rw [w29, if_neg (by omega)]
  refine ⟨hc1, hc', hr', eg, c1, r1, xc, xr, ⟨a1.fr xc rfl, a2.fr xr rfl, a3.fr xc rfl, a4.fr xc rfl en.1, (a5.st (p := q) (s := 1) (by decide)).fr xc' rfl xr' rfl, (a6.s0 (p := q) (s := 1) (by rw [st]; decide)).fr xc' rfl xr' rfl, a7.fr xc rfl xr rfl, ?_, a9.fr xc rfl xr rfl, a10.fr xc rfl xr rfl, ⟨c3, by rw [gZ _ _ _ (by decide)]; exact r4, by rw [gZ _ _ _ (by decide)]; exact r5, by omega, by rw [xc 8 11 (by simp) (by decide) 0]; exact b5, by rw [xr 12 61 (by simp) (by decide) 0]; exact b6, b7, b8, b9, b10⟩, K', ?_, ?_, ?_, ?_⟩, R43, (fun i j => by rw [c4 i j, f1 20 j (by simp) (by simp) i]), by rw [(w6 q).2, if_pos rfl], en75, by rw [R6, if_pos rfl], by rw [R0, if_pos rfl]⟩
  · rw [ez]
    exact (a8.fr xc rfl xr rfl).up (by omega)
  · obtain ⟨u1, u2, u3⟩ := U
    unfold PU
    rw [e0, e62, g 89 rfl (by decide)]
    refine ⟨fun x y => ?_, fun x x' y y' => ?_, fun t t0 t1 t2 => ?_⟩
    · rcases (EU x).mp y with z | z
      · obtain ⟨z1, z2, z3⟩ := u1 x z
        rw [e75 x z, R2, if_neg (nu x z), (w6 _).1, if_neg (nu x z)]
        exact ⟨z1, z2, z3⟩
      · rw [z, en75, R2, if_pos rfl, (w6 q).1, if_pos rfl]
        exact ⟨rfl, rfl, nl⟩
    · rcases (EU x).mp y with z | z
      · rcases (EU x').mp y' with z' | z'
        · rw [e75 x z, e75 x' z']; exact u2 x x' z z'
        · rw [e75 x z, z', en75]; intro w; exact absurd w (nu x z)
      · rcases (EU x').mp y' with z' | z'
        · rw [e75 x' z', z, en75]; intro w; exact absurd w.symm (nu x' z')
        · intro _; rw [z, z']
    · rw [R2] at t2
      by_cases w : t = q
      · exact Or.inr ⟨n, (EU n).mpr (Or.inr rfl), by rw [en75, w]⟩
      · rw [if_neg w] at t2
        rcases u3 t t0 t1 t2 with z | ⟨x, z1, z2⟩
        · exact Or.inl z
        · exact Or.inr ⟨x, (EU x).mpr (Or.inl z1), by rw [e75 x z1]; exact z2⟩
  · obtain ⟨h1', h2, h3, h4⟩ := H
    unfold PH
    rw [e0, e62, EC1, w35]
    refine ⟨?_, fun x xn o1 o2 => ?_, fun i i0 i1 => ?_, fun i j i0 ij j1 => ?_⟩
    · rcases so01 with z | z
      · rw [if_neg (by omega), if_neg (by omega)]; omega
      · rw [if_pos z, if_pos z]; omega
    · by_cases z : x = n
      · have o2' : so = 1 := by rw [R6, if_pos (by rw [z])] at o2; exact o2
        rw [z, EC n (Nat.le_refl n), en75, w29, if_pos ⟨o2', by omega⟩]
      · have xl : x < n := by omega
        have zi : ¬ (x : Int) = n := by omega
        rw [R0, if_neg zi] at o1
        rw [R6, if_neg zi] at o2
        have lt := zLc_lt o1 o2 xl
        rw [EC x (by omega), R5, if_neg zi, w29', h2 x xl o1 o2]
        omega
    · have cs : (i < gt hc 3 0 5 ∧ gt hc' 29 0 i = gt hc 29 0 i) ∨ (so = 1 ∧ gt hc' 29 0 i = q) := by
        by_cases z : i < gt hc 3 0 5
        · exact Or.inl ⟨z, w29' i z⟩
        · have z1 : so = 1 := by
            rcases so01 with y | y
            · rw [if_neg (by omega)] at i1; omega
            · exact y
          rw [if_pos z1] at i1
          exact Or.inr ⟨z1, by rw [w29, if_pos ⟨z1, by omega⟩]⟩
      rcases cs with ⟨z1, z2⟩ | ⟨z1, z2⟩
      · obtain ⟨t1, t2, t3, t4⟩ := h3 i i0 z1
        rw [z2, R2, if_neg (nh i i0 z1)]
        refine ⟨t1, t2, t3, fun x y o => ?_⟩
        rcases (EU x).mp y with v | v
        · rw [R6, if_neg (nU x v)] at o
          rw [e75 x v]; exact t4 x v o
        · rw [v, en75]; exact nh i i0 z1
      · rw [z2, R2, if_pos rfl]
        refine ⟨q0, q1, rfl, fun x y o => ?_⟩
        rcases (EU x).mp y with v | v
        · rw [e75 x v]; exact fun w => nu x v w.symm
        · rw [v, R6, if_pos rfl] at o; omega
    · have b : j ≤ gt hc 3 0 5 := by split at j1 <;> omega
      rw [w29' i (by omega)]
      by_cases z : j < gt hc 3 0 5
      · rw [w29' j z]; exact h4 i j i0 ij z
      · have z1 : so = 1 := by
          rcases so01 with y | y
          · rw [if_neg (by omega)] at j1; omega
          · exact y
        rw [w29 j, if_pos ⟨z1, by omega⟩]
        exact nh i i0 (by omega)
  · obtain ⟨l1, l2, l3⟩ := L
    unfold PL
    rw [e62, e0, g 89 rfl (by decide), g 90 rfl (by decide), g 91 rfl (by decide), g 92 rfl (by decide), t34, t35]
    refine ⟨l1, fun i i0 i1 => ?_, l3⟩
    have ne := nl i i0 i1
    rw [w29' i (by omega), (w6 _).1, (w6 _).2, R2, if_neg ne, if_neg ne, if_neg ne]
    exact l2 i i0 i1
  · intro x y xn o
    rcases (EU x).mp y with v | v
    · rw [R6, if_neg (nU x v)] at o
      rw [e75 x v, (w6 _).2, if_neg (nu x v), g 81 rfl (by decide), g 82 rfl (by decide), t34, t35]
      exact T x v o
    · exact absurd v xn
