/-! the last LOAN of a SCOPE; SPENT -/
abbrev zIr (n : Nat) (hr : zH) (s x : Int) : Prop := zJo n (gt hr 80 0) (gt hr 76 0) x ∧ gt hr 78 0 x = s
theorem r_last {n : Nat} {s : Int} {h : zH} (n160 : n ≤ 160) (hp : PIr h) (hn : gt h 12 0 34 = n) (H : ∀ k : Int, 0 ≤ k → k < n → gt h 80 0 k = 0 ∨ gt h 80 0 k = 1) : ∀ (f : Nat) (la k : Int), 0 ≤ k → k ≤ n → n - k < f → zLa (fun x => zIr n h s x ∧ x < k) (gt h 79 0) la → ∃ r, F_X12_lastOf_4 f 0 s la k h = some (r, h) ∧ zLa (zIr n h s) (gt h 79 0) r
  | 0, la, k, k0, k1, hf, _ => by omega
  | f + 1, la, k, k0, k1, hf, L => by
    have st : F_X12_lastOf_4 (f + 1) 0 s la k h = F_X12_lastOf_4b (F_X12_lastOf_4 f) 0 s la k h := rfl
    rw [st]
    unfold F_X12_lastOf_4b F_X12_lastOf_60
    rw [if_pos (by decide), hn]
    by_cases c : (n : Int) ≤ k
    · refine ⟨la, by rw [if_pos c], ?_⟩
      rcases L with ⟨a, b⟩ | ⟨a, b⟩
      · exact Or.inl ⟨a, fun x y => b x ⟨y, by have := y.1.2.1; omega⟩⟩
      · exact Or.inr ⟨a.1, fun x y => b x ⟨y, by have := y.1.2.1; omega⟩⟩
    · have kb : 0 ≤ k ∧ k < 180 := by omega
      have kn : k < n := by omega
      have rk : -1000000 ≤ k + 1 ∧ k + 1 ≤ 1000000 := by omega
      have hf1 : n - (k + 1) < f := by omega
      have k2 : k + 1 ≤ n := by omega
      have skip : (¬ zIr n h s k) → zLa (fun x => zIr n h s x ∧ x < k + 1) (gt h 79 0) la := fun z => by
        have q : ∀ x, zIr n h s x ∧ x < k + 1 → zIr n h s x ∧ x < k := fun x y => ⟨y.1, by
          have : x ≠ k := fun w => z (by rw [← w]; exact y.1)
          have := y.2
          omega⟩
        rcases L with ⟨a, b⟩ | ⟨a, b⟩
        · exact Or.inl ⟨a, fun x y => b x (q x y)⟩
        · exact Or.inr ⟨⟨a.1, by have := a.2; omega⟩, fun x y => b x (q x y)⟩
      have ih := fun la' L' => r_last (s := s) n160 hp hn H f la' (k + 1) (by omega) k2 hf1 L'
      rw [if_neg c, pr_40 hp, if_pos (by decide), if_pos kb, wI_s rk]
      by_cases d1 : gt h 80 0 k = 0
      · rw [if_pos d1]
        exact ih la (skip fun z => by have := z.1.2.2.1; omega)
      have o1 : gt h 80 0 k = 1 := by
        rcases H k k0 kn with z | z
        · exact absurd z d1
        · exact z
      rw [if_neg d1, pr_36 hp, if_pos (by decide)]
      by_cases d2 : gt h 76 0 k = 1
      · rw [if_pos d2]
        exact ih la (skip fun z => z.1.2.2.2 d2)
      rw [if_neg d2, pr_38 hp, if_pos (by decide)]
      by_cases d3 : gt h 78 0 k = s
      · have Ik : zIr n h s k := ⟨⟨k0, kn, o1, d2⟩, d3⟩
        rw [if_neg (by simpa using d3)]
        rcases L with ⟨a, b⟩ | ⟨a, b⟩
        · rw [if_pos (by omega)]
          refine ih k (Or.inr ⟨⟨Ik, by omega⟩, fun x y => ?_⟩)
          by_cases w : x = k
          · rw [w]; exact Int.le_refl _
          · exact absurd ⟨y.1, by have := y.2; omega⟩ (b x)
        · have la0 := a.1.1.1
          have la1 := a.1.1.2.1
          rw [if_neg (by omega), pr_39 hp, if_pos (by decide), if_pos ⟨la0, by omega⟩]
          by_cases d4 : gt h 79 0 k ≤ gt h 79 0 la
          · rw [if_pos d4]
            refine ih la (Or.inr ⟨⟨a.1, by have := a.2; omega⟩, fun x y => ?_⟩)
            by_cases w : x = k
            · rw [w]; exact d4
            · exact b x ⟨y.1, by have := y.2; omega⟩
          · rw [if_neg d4]
            refine ih k (Or.inr ⟨⟨Ik, by omega⟩, fun x y => ?_⟩)
            by_cases w : x = k
            · rw [w]; exact Int.le_refl _
            · have := b x ⟨y.1, by have := y.2; omega⟩
              omega
      · rw [if_pos d3]
        exact ih la (skip fun z => d3 z.2)
/-- SCOPES have different numbers -/
def SI (S : Int) (sid : Int → Int) : Prop := ∀ i j, 1 ≤ i → i < j → j ≤ S → sid i < sid j
theorem SI.dn {S : Int} {sid : Int → Int} (K : SI S sid) : SI (S - 1) sid := fun i j a b c => K i j a b (by omega)
theorem m_last {n : Nat} {S e s : Int} {sid : Int → Int} {hc hr : zH} (n160 : n ≤ 160) (K : LN n S e sid hc hr) (I : SI S sid) (hp : PIr hr) (hn : gt hr 12 0 34 = n) (s1 : 1 ≤ s) (s2 : s ≤ S) : F_X12_lastOf 0 (sid s) hr = some (gt hc 9 s 2, hr) := by
  have hz := zF_i
  obtain ⟨r, e1, e2⟩ := r_last (s := sid s) n160 hp hn (fun k a b => (K.1 k a b).2.1.2.1) zF (-1) 0 (Int.le_refl 0) (by omega) (by omega) (Or.inl ⟨rfl, fun x y => by have := y.1.1.1; have := y.2; omega⟩)
  have eI : zIr n hr (sid s) = zIn n (gt hr 80 0) (gt hr 76 0) (fL hc 5) s := by
    funext x
    apply propext
    unfold zIr zIn
    constructor
    · rintro ⟨a, b⟩
      refine ⟨a, ?_⟩
      have q := (K.1 x a.1 a.2.1).2.2.2.2.1 a.2.2.1 a.2.2.2
      obtain ⟨t1, t2, _⟩ := K.2.2.1 x a
      have t1 : 1 ≤ gt hc 4 x 5 := t1
      have t2 : gt hc 4 x 5 ≤ S := t2
      show gt hc 4 x 5 = s
      rcases Int.lt_trichotomy (gt hc 4 x 5) s with z | z | z
      · have := I _ _ t1 z s2; omega
      · exact z
      · have := I _ _ s1 z t2; omega
    · rintro ⟨a, b⟩
      have b : gt hc 4 x 5 = s := b
      refine ⟨a, ?_⟩
      rw [(K.1 x a.1 a.2.1).2.2.2.2.1 a.2.2.1 a.2.2.2, b]
  rw [eI] at e2
  have := la_un (fun x y a b z => K.2.1 x y a.1.1 a.1.2.1 b.1.1 b.1.2.1 z) e2 (K.2.2.2 s s1 s2)
  unfold F_X12_lastOf F_X12_lastOf_0
  rw [e1, this]
/-- whether a LOAN has a SUB-LOAN -/
theorem r_has {n : Nat} {l : Int} {h : zH} (n160 : n ≤ 160) (hp : PIr h) (hn : gt h 12 0 34 = n) : ∀ (f : Nat) (is k : Int), 0 ≤ k → k ≤ n → n - k < f → (is = 0 ∨ is = 1) →
    ∃ r, F_X12_hasOpen_6 f 0 l is k h = some (r, h) ∧ (r = 0 ∨ r = 1) ∧ (r = 1 ↔ (is = 1 ∨ ∃ j : Int, k ≤ j ∧ j < n ∧ gt h 80 0 j ≠ 0 ∧ gt h 76 0 j = 2 ∧ gt h 77 0 j = l))
  | 0, is, k, k0, k1, hf, _ => by omega
  | f + 1, is, k, k0, k1, hf, i01 => by
    have st : F_X12_hasOpen_6 (f + 1) 0 l is k h = F_X12_hasOpen_6b (F_X12_hasOpen_6 f) 0 l is k h := rfl
    rw [st]
    unfold F_X12_hasOpen_6b F_X12_hasOpen_51 F_X12_hasOpen_47
    rw [if_pos (by decide), hn]
    by_cases c : (n : Int) ≤ k
    · refine ⟨is, by rw [if_pos c, if_pos i01], i01, ?_⟩
      constructor
      · exact Or.inl
      · rintro (z | ⟨j, z⟩)
        · exact z
        · omega
    · have kb : 0 ≤ k ∧ k < 180 := by omega
      have rk : -1000000 ≤ k + 1 ∧ k + 1 ≤ 1000000 := by omega
      have hf1 : n - (k + 1) < f := by omega
      have k2 : k + 1 ≤ n := by omega
      have kn : k < n := by omega
      have ih := fun is' i' => r_has (l := l) n160 hp hn f is' (k + 1) (by omega) k2 hf1 i'
      have yes : (is = 1 ∨ (gt h 80 0 k ≠ 0 ∧ gt h 76 0 k = 2 ∧ gt h 77 0 k = l)) → ∃ r, F_X12_hasOpen_6 f 0 l 1 (k + 1) h = some (r, h) ∧ (r = 0 ∨ r = 1) ∧ (r = 1 ↔ (is = 1 ∨ ∃ j : Int, k ≤ j ∧ j < n ∧ gt h 80 0 j ≠ 0 ∧ gt h 76 0 j = 2 ∧ gt h 77 0 j = l)) := fun z => by
        obtain ⟨r, e1, e2, e3⟩ := ih 1 (Or.inr rfl)
        refine ⟨r, e1, e2, fun _ => ?_, fun _ => e3.mpr (Or.inl rfl)⟩
        rcases z with z | z
        · exact Or.inl z
        · exact Or.inr ⟨k, Int.le_refl _, kn, z⟩
      have no : is = 0 → (¬ (gt h 80 0 k ≠ 0 ∧ gt h 76 0 k = 2 ∧ gt h 77 0 k = l)) → ∃ r, F_X12_hasOpen_6 f 0 l 0 (k + 1) h = some (r, h) ∧ (r = 0 ∨ r = 1) ∧ (r = 1 ↔ (is = 1 ∨ ∃ j : Int, k ≤ j ∧ j < n ∧ gt h 80 0 j ≠ 0 ∧ gt h 76 0 j = 2 ∧ gt h 77 0 j = l)) := fun i0 z => by
        obtain ⟨r, e1, e2, e3⟩ := ih 0 (Or.inl rfl)
        refine ⟨r, e1, e2, fun w => ?_, fun w => ?_⟩
        · rcases e3.mp w with y | ⟨j, y1, y2⟩
          · omega
          · exact Or.inr ⟨j, by omega, y2⟩
        · rcases w with w | ⟨j, y1, y2, y3⟩
          · omega
          · refine e3.mpr (Or.inr ⟨j, ?_, y2, y3⟩)
            have : j ≠ k := fun v => z (by rw [← v]; exact y3)
            omega
      rw [if_neg c]
      rcases i01 with i0 | i1
      · rw [if_neg (by simpa using i0), pr_40 hp, if_pos (by decide), if_pos kb, wI_s rk]
        by_cases d1 : gt h 80 0 k = 0
        · rw [if_pos d1]; exact no i0 fun z => z.1 d1
        rw [if_neg d1, pr_36 hp, if_pos (by decide)]
        by_cases d2 : gt h 76 0 k = 2
        · rw [if_neg (by simpa using d2), pr_37 hp, if_pos (by decide)]
          by_cases d3 : gt h 77 0 k = l
          · rw [if_neg (by simpa using d3)]; exact yes (Or.inr ⟨d1, d2, d3⟩)
          · rw [if_pos d3]; exact no i0 fun z => d3 z.2.2
        · rw [if_pos d2]; exact no i0 fun z => d2 z.2.1
      · rw [if_pos (by omega), wI_s rk]; exact yes (Or.inl i1)
theorem m_has {n : Nat} {S l : Int} {sid : Int → Int} {hc hr : zH} (n160 : n ≤ 160) (K : LN n S (-1) sid hc hr) (hp : PIr hr) (hn : gt hr 12 0 34 = n) (l0 : 0 ≤ l) (l1 : l < n) : F_X12_hasOpen 0 l hr = some (if gt hc 4 l 4 = -1 then 0 else 1, hr) := by
  have hz := zF_i
  have rl : -1000000 ≤ l + 1 ∧ l + 1 ≤ 1000000 := by omega
  obtain ⟨r, e1, e2, e3⟩ := r_has (l := l) n160 hp hn zF 0 (l + 1) (by omega) (by omega) (by omega) (Or.inl rfl)
  unfold F_X12_hasOpen F_X12_hasOpen_0
  rw [wI_s rl, e1]
  obtain ⟨b1, b2, b3, b4, b5⟩ := (K.1 l l0 l1).2.1
  have : r = if gt hc 4 l 4 = -1 then 0 else 1 := by
    by_cases c : gt hc 4 l 4 = -1
    · rw [if_pos c]
      rcases e2 with z | z
      · exact z
      · rcases e3.mp z with y | ⟨j, y1, y2, y3, y4, y5⟩
        · omega
        · have o : gt hr 80 0 j = 1 := by
            rcases (K.1 j (by omega) y2).2.1.2.1 with w | w
            · exact absurd w y3
            · exact w
          have := (b5 j (by omega) y2).mpr ⟨o, y5⟩
          omega
    · rw [if_neg c]
      refine e3.mpr (Or.inr ⟨gt hc 4 l 4, ?_⟩)
      have q := (b5 (gt hc 4 l 4) (by omega) b4).mp rfl
      obtain ⟨_, _, _, _, _, _, a7, a8⟩ := (K.1 (gt hc 4 l 4) (by omega) b4).1
      have s2 : gt hr 76 0 (gt hc 4 l 4) = 2 := Classical.byContradiction fun y => by
        have := a8 y
        omega
      have := (a7 s2).2.1
      exact ⟨by omega, b4, by omega, s2, q.2⟩
  rw [this]
theorem LN.dn {n : Nat} {S e : Int} {sid : Int → Int} {hc hr : zH} (K : LN n S e sid hc hr) (s1 : 1 ≤ S) (e1 : gt hc 9 S 2 = -1) : LN n (S - 1) e sid hc hr := ⟨K.1, K.2.dn s1 e1⟩
theorem CR.dn {B : Int} {n : Nat} {S c : Int} {sid : Int → Int} {hc hr : zH} (X : CR B n S c sid hc hr) (s1 : 1 ≤ S) (e1 : gt hc 9 S 2 = -1) : CR B n (S - 1) c sid hc hr := by
  obtain ⟨a1, a2, a3, a4, a5, a6, a7, a8, a9, a10, a11, K, rest⟩ := X
  exact ⟨a1, a2, a3, a4, a5, a6, a7, a8, a9, a10, a11, K.dn s1 e1, rest⟩
/-- what CR looks at -/
theorem CR.fr {B : Int} {n : Nat} {S c : Int} {sid : Int → Int} {lc lr : List Nat} {mc mr : List (Nat × Int)} {hc hr hc' hr' : zH} (X : CR B n S c sid hc hr) (xc : zFx lc mc hc hc') (dc : zdj [6, 27, 28, 29, 30, 31, 32, 33, 34, 35, 36, 37, 38, 39, 40, 41, 42, 43, 44, 45, 46, 47, 48, 49, 100, 101, 102] ([(1, 3), (3, 1), (3, 3), (3, 5), (5, 3), (5, 4), (7, 3), (8, 9), (8, 11), (4, 0), (4, 1), (4, 2), (4, 3), (4, 4), (4, 5), (4, 6), (4, 7), (9, 2), (11, 0), (11, 1), (11, 2), (11, 3), (10, 0), (10, 1), (10, 2), (10, 3), (10, 4), (10, 5), (10, 6), (10, 7), (10, 8), (10, 9)] ++ fPIc) lc mc = true) (en : FrN hc hc')
    (xr : zFx lr mr hr hr') (dr : zdj [50, 51, 52, 53, 54, 55, 56, 57, 58, 59, 60, 61, 62, 63, 64, 65, 75, 76, 77, 78, 79, 80, 81, 82, 89, 90, 91, 92] ([(12, 0), (12, 4), (12, 6), (12, 12), (12, 16), (12, 34), (12, 43), (12, 56), (12, 61), (12, 62)] ++ fPIr) lr mr = true) : CR B n S c sid hc' hr' := by
  obtain ⟨a1, a2, a3, a4, a5, a6, a7, a8, a9, a10, ⟨b1, b2, b3, b4, b5, b6, b7, b8, b9, b10⟩, K, U, H, L, T⟩ := X
  have wk : ∀ {l1 l2 : List Nat} {m1 m2 : List (Nat × Int)} {p : List Nat} {q : List (Nat × Int)}, zdj l1 m1 p q = true → (l2.all fun x => l1.contains x) = true → (m2.all fun x => m1.contains x || l1.contains x.1) = true → zdj l2 m2 p q = true := fun {l1 l2 m1 m2 p q} d w1 w2 => by
    unfold zdj at d ⊢
    rw [Bool.and_eq_true] at d ⊢
    refine ⟨List.all_eq_true.mpr fun x hx => ?_, List.all_eq_true.mpr fun x hx => ?_⟩
    · have := List.all_eq_true.mp w1 x hx
      exact List.all_eq_true.mp d.1 x (by simpa using this)
    · have := List.all_eq_true.mp w2 x hx
      rw [Bool.or_eq_true] at this
      rcases this with z | z
      · exact List.all_eq_true.mp d.2 x (by simpa using z)
      · have y := List.all_eq_true.mp d.1 x.1 (by simpa using z)
        rw [Bool.and_eq_true] at y ⊢
        refine ⟨y.1, ?_⟩
        rw [Bool.not_eq_true']
        refine Bool.eq_false_iff.mpr fun w => ?_
        have := List.all_eq_true.mp y.2 x (by simpa using w)
        simp at this
  have g : ∀ q : Nat, ([50, 51, 52, 53, 54, 55, 56, 57, 58, 59, 60, 61, 62, 63, 64, 65, 75, 76, 77, 78, 79, 80, 81, 82, 89, 90, 91, 92] : List Nat).contains q = true → gt hr' q 0 = gt hr q 0 := fun q z => by
    funext j; exact zdk dr xr z 0 j
  have gc : ∀ q : Nat, ([6, 27, 28, 29, 30, 31, 32, 33, 34, 35, 36, 37, 38, 39, 40, 41, 42, 43, 44, 45, 46, 47, 48, 49, 100, 101, 102] : List Nat).contains q = true → gt hc' q = gt hc q := fun q z => by
    funext i j; exact zdk dc xc z i j
  have e80 := g 80 rfl
  have e76 := g 76 rfl
  have zg : zLg hr' = zLg hr := by
    funext k
    unfold zLg
    rw [e80, e76]
  have h35 : gt hc' 3 0 5 = gt hc 3 0 5 := zdf2 dc xc (by decide) 0
  have r0 : gt hr' 12 0 0 = gt hr 12 0 0 := zdf2 dr xr (by decide) 0
  have r62 : gt hr' 12 0 62 = gt hr 12 0 62 := zdf2 dr xr (by decide) 0
  refine ⟨a1.fr xc (wk dc rfl rfl), a2.fr xr (wk dr rfl rfl), a3.fr xc (wk dc rfl rfl), a4.fr xc (wk dc rfl rfl) en.1, a5.fr xc (wk dc rfl rfl) xr (wk dr rfl rfl), a6.fr xc (wk dc rfl rfl) xr (wk dr rfl rfl), a7.fr xc (wk dc rfl rfl) xr (wk dr rfl rfl), ?_, a9.fr xc (wk dc rfl rfl) xr (wk dr rfl rfl), a10.fr xc (wk dc rfl rfl) xr (wk dr rfl rfl),
    ⟨by rw [zdf2 dc xc (c := 8) (j := 9) (by decide) 0]; exact b1, by rw [zdf2 dr xr (c := 12) (j := 34) (by decide) 0]; exact b2, by rw [zdf2 dr xr (c := 12) (j := 56) (by decide) 0]; exact b3, b4, by rw [zdf2 dc xc (c := 8) (j := 11) (by decide) 0]; exact b5, by rw [zdf2 dr xr (c := 12) (j := 61) (by decide) 0]; exact b6, b7, b8, b9, b10⟩, K.fr xc (wk dc rfl rfl) xr (wk dr rfl rfl), ?_, ?_, ?_, ?_⟩
  · rw [e80]; exact a8.fr xc (wk dc rfl rfl) xr (wk dr rfl rfl)
  · unfold PU zU
    rw [e80, e76, g 75 rfl, g 52 rfl, g 89 rfl, r0, r62, gc 6 rfl]
    exact U
  · unfold PH zU zLc
    rw [zg, e80, e76, g 75 rfl, g 52 rfl, r0, r62, gc 29 rfl, h35]
    exact H
  · unfold PL
    rw [g 89 rfl, g 90 rfl, g 91 rfl, g 92 rfl, g 52 rfl, r0, r62, gc 6 rfl, gc 29 rfl, gc 34 rfl, gc 35 rfl]
    exact L
  · unfold PTr zU
    rw [e80, e76, g 75 rfl, g 81 rfl, g 82 rfl, gc 6 rfl, gc 34 rfl, gc 35 rfl]
    exact T
/-- SCOPES in the reference's pile -/
def SK (hr : zH) (sid : Int → Int) : Nat → Int → Prop
  | 0, S => S = 0
  | p + 1, S => (gt hr 68 0 p = 12 ∧ gt hr 70 0 p = sid S ∧ 1 ≤ S ∧ SK hr sid p (S - 1)) ∨ (gt hr 68 0 p ≠ 12 ∧ SK hr sid p S)
theorem SK.cg {hr hr' : zH} {sid : Int → Int} : ∀ {p : Nat} {S : Int}, SK hr sid p S → (∀ j : Int, 0 ≤ j → j < p → gt hr' 68 0 j = gt hr 68 0 j ∧ gt hr' 70 0 j = gt hr 70 0 j) → SK hr' sid p S
  | 0, _, k, _ => k
  | p + 1, S, k, e => by
    have q := e p (Int.natCast_nonneg p) (by omega)
    have e' : ∀ j : Int, 0 ≤ j → j < p → gt hr' 68 0 j = gt hr 68 0 j ∧ gt hr' 70 0 j = gt hr 70 0 j := fun j a b => e j a (by omega)
    rcases k with ⟨a, b, c, d⟩ | ⟨a, b⟩
    · exact Or.inl ⟨by rw [q.1]; exact a, by rw [q.2]; exact b, c, d.cg e'⟩
    · exact Or.inr ⟨by rw [q.1]; exact a, b.cg e'⟩
/-- all of a SCOPE is given back: SPENT -/
theorem m_sp1 {B : Int} {n : Nat} {S c k : Int} {sid : Int → Int} (s1 : 1 ≤ S) (s90 : S ≤ 90) (k0 : 0 ≤ k) (k1 : k < 150) (I : SI S sid) {ag0 : Int → zH → zO} {ag17 : Int → Int → zH → zO} : ∀ (z : Nat) (fc fr : Nat) (i : Int) (hc hr : zH), CR B n S c sid hc hr → gt hr 70 0 k = sid S → zSum (gt hr 80 0) n ≤ z → z < fc → z < fr → 0 ≤ i → i + z ≤ 160 →
    ∃ hc' hr', F_X8_spend_19 ag0 fc 0 S i hc = F_X8_spend_49 ag0 0 hc' ∧ F_X12_spend_43 ag17 fr 0 k (gt hc 9 S 2) hr = ag17 0 (wI (k + (-1))) hr' ∧ zFx kGc mGc hc hc' ∧ FrN hc hc' ∧ zFx kGr mGr hr hr' ∧ FrN hr hr' ∧ CR B n S c sid hc' hr' ∧ gt hc' 9 S 2 = -1
  | z, 0, fr, i, hc, hr, _, _, _, h, _, _, _ => by omega
  | z, fc + 1, 0, i, hc, hr, _, _, _, _, h, _, _ => by omega
  | z, fc + 1, fr + 1, i, hc, hr, X, sk, hz, hf1, hf2, i0, i1 => by
    have X' := X
    obtain ⟨a1, a2, a3, a4, a5, a6, a7, a8, a9, a10, ⟨b1, b2, b3, b4, b5, b6, b7, b8, b9, b10⟩, K, U, H, L, T⟩ := X'
    have st : F_X8_spend_19 ag0 (fc + 1) 0 S i hc = F_X8_spend_19b ag0 (F_X8_spend_19 ag0 fc) 0 S i hc := rfl
    have st2 : F_X12_spend_43 ag17 (fr + 1) 0 k (gt hc 9 S 2) hr = F_X12_spend_43b ag17 (F_X12_spend_43 ag17 fr) 0 k (gt hc 9 S 2) hr := rfl
    rw [st, st2]
    unfold F_X8_spend_19b F_X12_spend_43b
    by_cases e : gt hc 9 S 2 = -1
    · refine ⟨hc, hr, ?_, ?_, zFx.rf hc, frrN hc, zFx.rf hr, frrN hr, X, e⟩
      · rw [if_pos (show 0 ≤ S by omega), if_pos e]
        split <;> rfl
      · rw [if_pos (by omega)]
    · obtain ⟨l, hl⟩ : ∃ l, l = gt hc 9 S 2 := ⟨_, rfl⟩
      have I1 : zIn n (gt hr 80 0) (gt hr 76 0) (fL hc 5) S l := by
        rcases K.2.2.2 S s1 (Int.le_refl S) with ⟨w, _⟩ | ⟨w, _⟩
        · exact absurd w e
        · rw [hl]; exact w
      obtain ⟨⟨l0, l1, op, so⟩, sc⟩ := I1
      have l0 : 0 ≤ l := l0
      obtain ⟨r, hc1, hr1, g1, g2, g3, g4, g5, g6, g7, g8, g9, g10⟩ := m_gv (how := 2) X l0 l1 op
      have z1 := (zSum_op g8.2.2.2.2.2.2.2.2.2.2.2.1).1
      obtain ⟨z', rfl⟩ : ∃ z', z = z' + 1 := ⟨z - 1, by omega⟩
      have ri : -1000000 ≤ i + 1 ∧ i + 1 ≤ 1000000 := by omega
      have sk1 : gt hr1 70 0 k = sid S := by rw [g6 70 k (by decide) (by simp) 0]; exact sk
      obtain ⟨hc', hr', q1, q2, q3, q4, q5, q6, q7, q8⟩ := m_sp1 (ag0 := ag0) (ag17 := ag17) s1 s90 k0 k1 I z' fc fr (i + 1) hc1 hr1 g8 sk1 (by omega) (by omega) (by omega) (by omega) (by omega)
      refine ⟨hc', hr', ?_, ?_, g4.tr q3, g5.tr q4, g6.tr q5, g7.tr q6, q7, q8⟩
      · rw [if_neg (by omega), if_pos (show 0 ≤ S by omega), if_neg e, if_pos (by decide), ← hl, g1]
        simp only [zb]
        rw [wI_s ri]; exact q1
      · have c2 := g8.2.1
        obtain ⟨d1, d2, _⟩ := g8.2.2.2.2.2.2.2.2.2.2.1
        rw [← hl, if_neg (by omega), if_pos (by decide), g2]
        simp only [zb]
        rw [pr_28 c2, if_pos (by decide), if_pos ⟨k0, k1⟩, sk1, m_last b4 g8.2.2.2.2.2.2.2.2.2.2.2.1 I c2 d2 s1 (Int.le_refl S)]
        exact q2
/-- SPENT: all SCOPES, from the innermost -/
theorem m_sp2 {B : Int} {n : Nat} {c : Int} {sid : Int → Int} : ∀ (p : Nat) (S : Int) (fc fr : Nat) (hc hr : zH), p ≤ 150 → 0 ≤ S → S ≤ 90 → CR B n S c sid hc hr → SI S sid → SK hr sid p S → gt hc 8 0 7 = S → S < fc → p < fr → 0 ≤ gt hc 8 0 15 → gt hc 8 0 15 ≤ 100000 - S →
    ∃ hc' hr', F_X8_spend_0 fc 0 hc = some (0, hc') ∧ F_X12_spend_17 fr 0 ((p : Int) - 1) hr = some (0, hr') ∧ zFx kGc (mGc ++ [(8, 7), (8, 15)]) hc hc' ∧ FrN hc hc' ∧ zFx kGr (mGr ++ [(12, 25)]) hr hr' ∧ FrN hr hr' ∧ CR B n 0 c sid hc' hr' ∧ gt hc' 8 0 15 = gt hc 8 0 15 + S
  | 0, S, fc, 0, hc, hr, _, _, _, _, _, _, _, _, h, _, _ => by omega
  | p, S, 0, fr, hc, hr, _, _, _, _, _, _, _, h, _, _, _ => by omega
  | 0, S, fc + 1, fr + 1, hc, hr, p150, s0, s90, X, I, Q, e7, hf1, hf2, d0, d1 => by
    have Q : S = 0 := Q
    subst Q
    refine ⟨hc, pt hr 12 0 25 0, ?_, ?_, zFx.rf hc, frrN hc, (zFx.rf hr).p2 rfl, frpN (frrN hr), X.fr (lc := []) (mc := []) (zFx.rf hc) rfl (frrN hc) (lr := []) (mr := [(12, 25)]) ((zFx.rf hr).p2 rfl) rfl, by omega⟩
    · show F_X8_spend_0b (F_X8_spend_0 fc) 0 hc = _
      unfold F_X8_spend_0b
      rw [if_pos (by decide), e7, if_pos (by decide)]
    · show F_X12_spend_17b (F_X12_spend_17 fr) 0 ((0 : Nat) - 1) hr = _
      unfold F_X12_spend_17b
      rw [if_pos (by decide), if_pos (by decide)]
  | p + 1, S, fc + 1, 0, hc, hr, _, _, _, _, _, _, _, _, h, _, _ => by omega
  | p + 1, S, fc + 1, fr + 1, hc, hr, p150, s0, s90, X, I, Q, e7, hf1, hf2, d0, d1 => by
    have a2 := X.2.1
    have a1 := X.1
    have a4 := X.2.2.2.1
    have K := X.2.2.2.2.2.2.2.2.2.2.2.1
    have ep : ((p + 1 : Nat) : Int) - 1 = p := by omega
    have rp : -1000000 ≤ (p : Int) + (-1) ∧ (p : Int) + (-1) ≤ 1000000 := by omega
    have ep1 : (p : Int) + (-1) = (p : Int) - 1 := by omega
    rw [ep]
    have st : F_X12_spend_17 (fr + 1) 0 p hr = F_X12_spend_17b (F_X12_spend_17 fr) 0 p hr := rfl
    rw [st]
    have kb : 0 ≤ (p : Int) ∧ (p : Int) < 150 := by omega
    rcases Q with ⟨q1, q2, q3, q4⟩ | ⟨q1, q2⟩
    · have hz := zF_i
      obtain ⟨y1, y2⟩ := zSum_op K
      have sb : 0 ≤ S ∧ S < 91 := by omega
      have n160 := X.2.2.2.2.2.2.2.2.2.2.1.2.2.2.1
      have hn := X.2.2.2.2.2.2.2.2.2.2.1.2.1
      obtain ⟨hc1, hr1, g1, g2, g3, g4, g5, g6, g7, g8⟩ := m_sp1 (ag0 := F_X8_spend_0 fc) (ag17 := F_X12_spend_17 fr) q3 s90 kb.1 kb.2 I n zF zF 0 hc hr X q2 y2 (by omega) (by omega) (Int.le_refl 0) (by omega)
      have w15 : gt hc1 8 0 15 = gt hc 8 0 15 := g3 8 15 (by decide) (by decide) 0
      have w7 : gt hc1 8 0 7 = S := (g3 8 7 (by decide) (by decide) 0).trans e7
      have r15 : -1000000 ≤ gt hc 8 0 15 + 1 ∧ gt hc 8 0 15 + 1 ≤ 1000000 := by omega
      have r7 : -1000000 ≤ S - 1 ∧ S - 1 ≤ 1000000 := by omega
      obtain ⟨hc2, h2⟩ : ∃ hc2, hc2 = pt (pt hc1 8 0 15 (gt hc 8 0 15 + 1)) 8 0 7 (S - 1) := ⟨_, rfl⟩
      have v15 : gt hc2 8 0 15 = gt hc 8 0 15 + 1 ∧ gt hc2 8 0 7 = S - 1 := by rw [h2]; exact ⟨rfl, rfl⟩
      have x2 : zFx [] [(8, 7), (8, 15)] hc1 hc2 := by rw [h2]; exact ((zFx.rf hc1).p2 rfl).p2 rfl
      have n2 : FrN hc1 hc2 := by rw [h2]; exact frpN (frpN (frrN hc1))
      have X2 : CR B n (S - 1) c sid hc2 hr1 := (g7.dn q3 g8).fr x2 rfl n2 (zFx.rf (l := []) (m := []) hr1) rfl
      obtain ⟨hc', hr', t1, t2, t3, t4, t5, t6, t7, t8⟩ := m_sp2 p (S - 1) fc fr hc2 hr1 (by omega) (by omega) (by omega) X2 I.dn (q4.cg fun j _ _ => ⟨g5 68 j (by decide) (by simp) 0, g5 70 j (by decide) (by simp) 0⟩) v15.2 (by omega) (by omega) (by omega) (by omega)
      refine ⟨hc', hr', ?_, ?_, ((g3.wk rfl rfl).tr (x2.wk rfl rfl)).tr t3, (g4.tr n2).tr t4, (g5.wk rfl rfl).tr t5, g6.tr t6, t7, by omega⟩
      · show F_X8_spend_0b (F_X8_spend_0 fc) 0 hc = _
        unfold F_X8_spend_0b
        rw [if_pos (by decide), e7, if_neg (by omega), pc_8_6 a1, if_pos (by decide), if_pos sb, (a4.2.1 S sb.1 sb.2).2, g1]
        unfold F_X8_spend_49
        have w7' : gt (pt hc1 8 0 15 (gt hc 8 0 15 + 1)) 8 0 7 = S := w7
        rw [if_pos (by decide), w15, wI_s r15, w7', wI_s r7, ← h2]
        exact t1
      · unfold F_X12_spend_17b
        rw [if_neg (by omega), if_pos (by decide), pr_26 a2, if_pos (by decide), if_pos kb, if_neg (by simpa using q1), pr_28 a2, if_pos (by decide), q2, m_last n160 K I a2 hn q3 (Int.le_refl S)]
        simp only [zb]
        rw [g2, wI_s rp, ep1]
        exact t2
    · obtain ⟨hc', hr', t1, t2, t3⟩ := m_sp2 p S (fc + 1) fr hc hr (by omega) s0 s90 X I q2 e7 hf1 (by omega) d0 d1
      refine ⟨hc', hr', t1, ?_, t3⟩
      unfold F_X12_spend_17b
      rw [if_neg (by omega), if_pos (by decide), pr_26 a2, if_pos (by decide), if_pos kb, if_pos q1, wI_s rp, ep1]
      exact t2
